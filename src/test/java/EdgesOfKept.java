/** Promises 52, 53: what is kept, and comes back. */
final class EdgesOfKept {
  private static final String BOTH = EdgesOfScripts.BOTH;
  private static final String FOUR = EdgesOfRounds.FOUR;

  private final Edges edges;

  EdgesOfKept(Edges edges) {
    this.edges = edges;
  }

  void all() {
    edges.says(52, "All but the MEET as it was told, THE TAPE, FAULTS, stopped() and what can be undone is kept",
        this::keptAside);
    edges.says(52, "(k 0, 1; LISTS as they are now, too):", this::keptLists);
    edges.says(52, "how many DIVES were given.", this::keepAnswers);
    edges.says(52, "-2: another k;", this::keepWrong);
    edges.says(52, "-3: there is no MEET.", this::keepRefused);
    edges.says(53, "All that is kept comes back", this::comesBack);
    edges.says(53, "(nothing can be undone then):", this::backForgets);
    edges.says(53, "how many DIVES were given.", this::backAnswers);
    edges.says(53, "-2: another k;", this::backWrong);
    edges.says(53, "-3: nothing is kept.", this::backRefused);
  }

  private void keptAside() {
    DropTwo x = edges.meet(BOTH);
    x.cap(3);
    Check.script(x, "give;");
    edges.due("stopped at the first one", 0, x.stopped());
    x.feed(0, 0, 0, 0, 0);
    edges.due("keep", 0, x.keep(0));
    edges.due("keep is no act, what can be undone stays", 1, x.look(7));
    edges.due("the tape stays", 20, x.look(10));
    edges.due("stopped() stays", 0, x.stopped());
    x.end(0);
    Check.script(x, "balk;give;");
    edges.due("stopped at the second one", 1, x.stopped());
    edges.due("a meet with a fault", -1, Check.meet(x, "rounds 7"));
    x.feed(0, 0, 0, 0, 0);
    x.feed(0, 0, 0, 0, 0);
    edges.due("back", 0, x.back(0));
    edges.due("the tape is none of it", 40, x.look(10));
    edges.due("the fault is none of it", 2, x.fault(0));
    edges.due("its place is none of it", 7, x.fault(1));
    edges.due("stopped() is none of it", 1, x.stopped());
    edges.due("what could be undone is none of it", 0, x.look(7));
    edges.due("the cap is", 3, x.board(6));
    // The meet as it was told: a wrong one told meanwhile changes nothing, forms and laws stay.
    DropTwo y = edges.meet(BOTH + "form ann 1 2 3 4 5 6;law 1=1;cut 1 most 2;");
    y.keep(1);
    Check.meet(y, "rounds 1 drop 3;judge land 7;");
    edges.due("back", 0, y.back(1));
    edges.due("rounds", 2, y.look(0));
    edges.due("drop", 0, y.look(1));
    edges.due("form", 6, y.form(0, 6));
    edges.due("laws", 1, y.look(5));
    edges.due("cuts", 1, y.look(6));
  }

  private void keptLists() {
    DropTwo x = edges.meet(BOTH);
    edges.due("change", 1, x.change(0, 2, 2));
    x.keep(0);
    edges.due("change", 2, x.change(0, 2, 1));
    edges.due("change", 2, x.change(1, 2, 0));
    x.keep(1);
    edges.due("back(0)", 0, x.back(0));
    edges.due("ann's list", 2, x.list(0, 2));
    edges.due("duo's list", 2, x.list(1, 2));
    edges.due("back(1)", 0, x.back(1));
    edges.due("ann's list", 1, x.list(0, 2));
    edges.due("duo's list", 0, x.list(1, 2));
    // The first keep is not that of the list as it was told.
    edges.due("back(0)", 0, x.back(0));
    edges.due("what it is changed from", 2, x.change(0, 2, 1));
  }

  private void keepAnswers() {
    DropTwo x = edges.meet(FOUR);
    edges.due("none", 0, x.keep(0));
    edges.act(x, "all 5;");
    edges.due("marked is not given", 0, x.keep(1));
    edges.act(x, "give;fail;give;");
    edges.due("two, one that failed", 2, x.keep(0));
    edges.act(x, "out a;");
    edges.due("of one who is out, too", 2, x.keep(0));
    edges.act(x, "out c;");
    edges.due("out at the board is not given", 2, x.keep(0));
    edges.act(x, "all 5;give;".repeat(5));
    edges.due("over", 7, x.keep(0));
    edges.due("over", 1, x.look(8));
    edges.due("again", 7, x.keep(0));
    x.undo();
    edges.due("undone", 2, x.keep(0));
  }

  private void keepWrong() {
    DropTwo x = edges.meet(BOTH);
    edges.beyond("keep", 0, 1, -2, x::keep);
    edges.due("nothing is kept by it", -3, x.back(0));
    edges.due("nothing is kept by it", -3, x.back(1));
    DropTwo none = new DropTwo();
    edges.beyond("keep without a meet", 0, 1, -2, none::keep);
  }

  private void keepRefused() {
    DropTwo x = new DropTwo();
    edges.due("keep(0)", -3, x.keep(0));
    edges.due("keep(1)", -3, x.keep(1));
    Check.meet(x, "rounds 1 drop 0;");
    edges.due("a meet with a fault", -3, x.keep(0));
    Check.meet(x, BOTH);
    edges.due("nothing was kept ahead of it", -3, x.back(0));
    edges.due("keep(0)", 0, x.keep(0));
  }

  private void comesBack() {
    DropTwo x = edges.meet(FOUR + "cut 1 most 2 anew;dive tw group 4 degree 20;");
    edges.act(x, "all 5;give;all 6;give;all 7;give;balk;cap 7;all 3;");
    edges.due("change", 2, x.change(0, 3, 3));
    String kept = Edges.view(x);
    int[] board = new int[9];
    for (int what = 0; what <= 8; what++) {
      board[what] = x.board(what);
    }
    edges.due("keep", 3, x.keep(0));
    edges.due("give", 0, x.give());
    edges.due("two are in", 2, x.look(9));
    edges.act(x, "all 5;give;out b;");
    edges.due("keep", 5, x.keep(1));
    String second = Edges.view(x);
    edges.due("back", 3, x.back(0));
    for (int what = 0; what <= 8; what++) {
      edges.due("board(" + what + ")", board[what], x.board(what));
    }
    edges.isTrue("all as it was, but acts", Edges.view(x).equals(acts(kept, x)));
    edges.due("marked", 3, x.marked(0));
    edges.due("all are in", 4, x.look(9));
    edges.due("total", 1500, x.total(0, 0));
    edges.due("its dive is one of its total", 1500, x.asDrop(0, 0));
    edges.due("not cut", 0, x.entrant(3, 2));
    edges.due("its award", 6, x.award(1, 1, 0, 0));
    edges.due("give goes on from there", 0, x.give());
    edges.due("b is the next one", 1, x.board(0));
    edges.due("back to the second one", 5, x.back(1));
    edges.isTrue("all as it was, but acts", Edges.view(x).equals(acts(second, x)));
    edges.due("b is out", 7, x.entrant(1, 2));
    edges.due("it had begun anew, and had 5", 1500, x.asDrop(0, 1));
    // What is kept stays so: it comes back again, and what is done behind it does not change it.
    edges.due("back again", 3, x.back(0));
    edges.due("a half that is none", -3, x.half(0));
    x.cap(1);
    edges.due("back again", 3, x.back(0));
    edges.due("the cap that was kept", 7, x.board(6));
    // Kept again, in place of what was kept ahead.
    x.fail();
    edges.due("keep", 3, x.keep(0));
    x.give();
    edges.due("back", 3, x.back(0));
    edges.due("it failed", 1, x.board(8));
    edges.due("the other one stays", 5, x.back(1));
  }

  /** A view, with no act that can be undone. */
  private static String acts(String view, DropTwo x) {
    String[] words = view.split(" ");
    StringBuilder text = new StringBuilder();
    for (int i = 0; i < words.length; i++) {
      text.append(i == 14 ? String.valueOf(x.look(7)) : words[i]).append(' ');
    }
    return text.toString();
  }

  private void backForgets() {
    DropTwo x = edges.meet(BOTH);
    x.cap(3);
    x.keep(0);
    x.cap(4);
    edges.due("two acts", 2, x.look(7));
    x.back(0);
    edges.due("none", 0, x.look(7));
    edges.due("undo", -3, x.undo());
    edges.due("the cap stays", 3, x.board(6));
    x.cap(5);
    edges.due("a new one", 0, x.undo());
    edges.due("can be undone", 3, x.board(6));
    for (int i = 0; i < 20; i++) {
      x.cap(i);
    }
    x.back(0);
    edges.due("twenty are forgotten, too", -3, x.undo());
  }

  private void backAnswers() {
    DropTwo x = edges.meet(BOTH);
    x.keep(0);
    edges.act(x, "fail;give;all 5;give;");
    edges.due("keep", 2, x.keep(1));
    edges.act(x, "fail;give;all 5;give;");
    edges.due("over", 1, x.look(8));
    edges.due("none", 0, x.back(0));
    edges.due("two", 2, x.back(1));
    edges.due("none", 0, x.back(0));
    edges.due("no dive is given then", -1, x.points(1, 1));
    edges.due("two", 2, x.back(1));
    edges.due("two", 5 * 450, x.points(1, 1));
  }

  private void backWrong() {
    DropTwo x = edges.meet(BOTH);
    edges.beyond("back with nothing kept", 0, 1, -2, x::back);
    x.keep(0);
    x.keep(1);
    edges.act(x, "cap 3;");
    edges.stays("what is wrong", x, () -> edges.beyond("back", 0, 1, -2, x::back));
    edges.due("without a meet", -2, new DropTwo().back(-1));
  }

  private void backRefused() {
    edges.due("without a meet", -3, new DropTwo().back(0));
    DropTwo x = edges.meet(BOTH);
    edges.act(x, "cap 3;");
    edges.stays("what is refused", x, () -> {
      edges.due("back(0)", -3, x.back(0));
      edges.due("back(1)", -3, x.back(1));
    });
    x.keep(1);
    edges.stays("the other one is kept", x, () -> edges.due("back(0)", -3, x.back(0)));
    edges.due("back(1)", 0, x.back(1));
    Check.meet(x, BOTH);
    edges.due("of the meet ahead", -3, x.back(1));
  }
}
