/** Promises 21 to 31: the board. */
final class EdgesOfBoard {
  private static final String BOTH = EdgesOfScripts.BOTH;
  private static final String FOUR = EdgesOfRounds.FOUR;

  private final Edges edges;

  EdgesOfBoard(Edges edges) {
    this.edges = edges;
  }

  void all() {
    edges.says(21, "Of who is at THE BOARD what 0 the ENTRANT, 1 ROUND, 2 DIVE,", this::boardWho);
    edges.says(21, "3 how many of its JUDGES have marked, 4 how many these are,", this::boardMarks);
    edges.says(21, "5 BALKS, 6 CAP, 7 halves that FAILED (1 the first, 2 the second, together), 8 1 if it FAILED, else 0.",
        this::boardRest);
    edges.says(21, "NONE: nobody is, another what.", this::boardNone);
    edges.says(22, "What a JUDGE has marked there.", this::marked);
    edges.says(22, "NONE: nothing, no such one, nobody is there.", this::markedNone);
    edges.says(23, "A JUDGE marks an AWARD (in place of one ahead): how many of its JUDGES have marked.", this::mark);
    edges.says(23, "-2: there is no such JUDGE, AWARD;", this::markWrong);
    edges.says(23, "-3: nobody is at THE BOARD, it FAILED, it is none of its JUDGES.", this::markRefused);
    edges.says(24, "A BALK: how many there are.", this::balk);
    edges.says(24, "-3: nobody is at THE BOARD, it FAILED.", this::balkRefused);
    edges.says(25, "CAP is an AWARD: what it was.", this::cap);
    edges.says(25, "-2: there is no such AWARD;", this::capWrong);
    edges.says(25, "-3: nobody is at THE BOARD, it FAILED.", this::capRefused);
    edges.says(26, "A half (0 the first, 1 the second) FAILS: which did (as board() 7).", this::half);
    edges.says(26, "-2: there is no such half;", this::halfWrong);
    edges.says(26, "-3: nobody is at THE BOARD, it FAILED, it is no pair, that half FAILED already.", this::halfRefused);
    edges.says(27, "The DIVE FAILS: 0.", this::fail);
    edges.says(27, "-3: nobody is at THE BOARD, it FAILED already.", this::failRefused);
    edges.says(28, "The DIVE is given: its POINTS.", this::give);
    edges.says(28, "-3: nobody is at THE BOARD, it did not FAIL and not all of its JUDGES have marked.", this::giveRefused);
    edges.says(29, "An ENTRANT goes out: how many are IN then.", this::out);
    edges.says(29, "-2: there is no such one;", this::outWrong);
    edges.says(29, "-3: it is not IN, it is OVER.", this::outRefused);
    edges.says(30, "Another DIVE for a ROUND of an ENTRANT's LIST: the DIVE that it was.", this::change);
    edges.says(30, "-2: there are no such ones;", this::changeWrong);
    edges.says(30, "-3: it is not IN,", this::changeNotIn);
    edges.says(30, "the ROUND was given,", this::changeGiven);
    edges.says(30, "is at THE BOARD for it,", this::changeAtTheBoard);
    edges.says(30, "or it is OVER,", this::changeOver);
    edges.says(30, "the LIST has that DIVE already,", this::changeTwice);
    edges.says(30, "it would not OBEY then.", this::changeBreaks);
    edges.says(31, "The latest ACT is undone: how many are left that can be.", this::undo);
    edges.says(31, "-3: none can.", this::undoRefused);
  }

  private DropTwo both() {
    return edges.meet(BOTH);
  }

  /** BOTH with duo, the pair, at the board. */
  private DropTwo pair() {
    DropTwo x = both();
    edges.act(x, "all 1;give;");
    return x;
  }

  private DropTwo over() {
    DropTwo x = both();
    edges.act(x, "fail;give;fail;give;fail;give;fail;give;");
    edges.due("over", 1, x.look(8));
    return x;
  }

  private void boardWho() {
    DropTwo x = both();
    int[][] due = {{0, 1, 0}, {1, 1, 1}, {0, 2, 1}, {1, 2, 2}};
    for (int[] row : due) {
      for (int what = 0; what <= 2; what++) {
        edges.due("board(" + what + ")", row[what], x.board(what));
      }
      edges.act(x, "fail;give;");
    }
    DropTwo y = both();
    edges.due("change", 1, y.change(1, 1, 0));
    edges.act(y, "fail;give;");
    edges.due("the dive as the list is now", 0, y.board(2));
  }

  private void boardMarks() {
    DropTwo x = both();
    edges.due("none yet", 0, x.board(3));
    edges.due("of a diver", 2, x.board(4));
    x.mark(2, 0);
    edges.due("one, by 0", 1, x.board(3));
    // In the last of six rounds, with dives of others given behind and ahead.
    DropTwo six = edges.meet(EdgesOfMeets.rounds(6, 0, "diver bob land 1;list bob a b c d e f;"));
    for (int dive = 0; dive < 12; dive++) {
      edges.due("none of dive " + dive, 0, six.board(3));
      six.mark(0, 5);
      edges.due("one of dive " + dive, 1, six.board(3));
      six.give();
    }
    x.undo();
    x.mark(2, 0);
    x.mark(2, 5);
    edges.due("still one", 1, x.board(3));
    x.mark(0, 5);
    edges.due("both", 2, x.board(3));
    x.give();
    edges.due("none of the next one", 0, x.board(3));
    edges.due("of a pair", 3, x.board(4));
  }

  private void boardRest() {
    DropTwo x = pair();
    int[] begin = {0, 20, 0, 0};
    for (int what = 5; what <= 8; what++) {
      edges.due("board(" + what + ")", begin[what - 5], x.board(what));
    }
    x.balk();
    edges.due("a balk", 1, x.board(5));
    x.cap(0);
    edges.due("a cap", 0, x.board(6));
    x.half(1);
    edges.due("the second", 2, x.board(7));
    x.half(0);
    edges.due("together", 3, x.board(7));
    edges.due("not failed", 0, x.board(8));
    x.fail();
    edges.due("failed", 1, x.board(8));
    x.give();
    for (int what = 5; what <= 8; what++) {
      edges.due("of the next one board(" + what + ")", begin[what - 5], x.board(what));
    }
    DropTwo y = pair();
    y.half(0);
    edges.due("the first", 1, y.board(7));
  }

  private void boardNone() {
    DropTwo x = both();
    edges.beyond("board", 0, 8, -1, x::board);
    DropTwo none = new DropTwo();
    DropTwo over = over();
    for (int what = 0; what <= 8; what++) {
      edges.due("without a meet", -1, none.board(what));
      edges.due("over", -1, over.board(what));
    }
  }

  private void marked() {
    DropTwo x = both();
    x.mark(0, 0);
    x.mark(2, 20);
    edges.due("0", 0, x.marked(0));
    edges.due("20", 20, x.marked(2));
    x.mark(0, 7);
    edges.due("the latest one", 7, x.marked(0));
  }

  private void markedNone() {
    DropTwo x = both();
    edges.due("nothing", -1, x.marked(0));
    edges.due("none of its judges", -1, x.marked(1));
    edges.beyond("marked", 0, 4, -1, x::marked);
    x.mark(0, 5);
    x.fail();
    edges.due("it failed", -1, x.marked(0));
    edges.due("nobody is there", -1, over().marked(0));
    edges.due("without a meet", -1, new DropTwo().marked(0));
  }

  private void mark() {
    DropTwo x = pair();
    edges.due("the first one", 1, x.mark(4, 20));
    edges.due("in place of one ahead", 1, x.mark(4, 0));
    edges.due("marked", 0, x.marked(4));
    edges.due("the second one", 2, x.mark(1, 5));
    edges.due("the last one", 3, x.mark(3, 5));
    edges.due("in place of one ahead", 3, x.mark(1, 6));
  }

  private void markWrong() {
    DropTwo x = both();
    edges.stays("what is wrong", x, () -> {
      edges.beyond("mark's judge", 0, 4, -2, judge -> x.mark(judge, 5));
      edges.beyond("mark's award", 0, 20, -2, award -> x.mark(0, award));
      edges.beyond("mark's award", 0, 20, -2, award -> x.mark(1, award));
    });
    DropTwo over = over();
    edges.due("over", -2, over.mark(5, 5));
    edges.due("over", -2, over.mark(0, 21));
  }

  private void markRefused() {
    edges.due("over", -3, over().mark(0, 5));
    DropTwo x = both();
    edges.stays("what is refused", x, () -> {
      edges.due("a judge of pairs", -3, x.mark(1, 5));
      edges.due("a judge of pairs", -3, x.mark(3, 5));
      edges.due("a judge of pairs", -3, x.mark(4, 5));
    });
    edges.due("a judge of divers", -3, pair().mark(0, 5));
    x.fail();
    edges.stays("what is refused", x, () -> edges.due("it failed", -3, x.mark(0, 5)));
  }

  private void balk() {
    DropTwo x = both();
    edges.due("the first one", 1, x.balk());
    edges.due("the second one", 2, x.balk());
    x.give();
    edges.due("of the next one", 1, x.balk());
  }

  private void balkRefused() {
    DropTwo x = both();
    x.balk();
    x.balk();
    edges.stays("a third one", x, () -> edges.due("it failed", -3, x.balk()));
    DropTwo failed = both();
    failed.fail();
    edges.stays("a balk", failed, () -> edges.due("it failed", -3, failed.balk()));
    edges.due("over", -3, over().balk());
    edges.due("without a meet", -3, new DropTwo().balk());
  }

  private void cap() {
    DropTwo x = both();
    edges.due("20 without", 20, x.cap(0));
    edges.due("0", 0, x.cap(13));
    edges.due("a greater one, too", 13, x.cap(20));
    edges.due("20", 20, x.cap(20));
  }

  private void capWrong() {
    DropTwo x = both();
    edges.stays("what is wrong", x, () -> edges.beyond("cap", 0, 20, -2, x::cap));
    edges.due("over", -2, over().cap(21));
  }

  private void capRefused() {
    DropTwo x = both();
    x.fail();
    edges.stays("what is refused", x, () -> edges.due("it failed", -3, x.cap(5)));
    edges.due("over", -3, over().cap(5));
    edges.due("without a meet", -3, new DropTwo().cap(5));
  }

  private void half() {
    edges.due("the first", 1, pair().half(0));
    edges.due("the second", 2, pair().half(1));
    DropTwo x = pair();
    x.half(0);
    edges.due("both", 3, x.half(1));
    DropTwo y = pair();
    y.half(1);
    edges.due("both", 3, y.half(0));
  }

  private void halfWrong() {
    DropTwo x = pair();
    edges.stays("what is wrong", x, () -> edges.beyond("half", 0, 1, -2, x::half));
    edges.due("no pair", -2, both().half(2));
    edges.due("over", -2, over().half(2));
  }

  private void halfRefused() {
    DropTwo x = both();
    edges.stays("what is refused", x, () -> edges.due("no pair", -3, x.half(0)));
    DropTwo y = pair();
    y.half(0);
    edges.stays("what is refused", y, () -> edges.due("already", -3, y.half(0)));
    y.half(1);
    edges.due("already", -3, y.half(1));
    DropTwo z = pair();
    z.fail();
    edges.stays("what is refused", z, () -> edges.due("it failed", -3, z.half(0)));
    edges.due("over", -3, over().half(0));
    edges.due("without a meet", -3, new DropTwo().half(1));
  }

  private void fail() {
    DropTwo x = both();
    edges.due("fail", 0, x.fail());
    edges.due("it failed", 1, x.board(8));
    edges.due("an act", 1, x.look(7));
    edges.due("a pair", 0, pair().fail());
  }

  private void failRefused() {
    DropTwo x = both();
    x.fail();
    edges.stays("what is refused", x, () -> edges.due("already", -3, x.fail()));
    DropTwo y = both();
    y.balk();
    y.balk();
    edges.due("by two balks", -3, y.fail());
    edges.due("over", -3, over().fail());
    edges.due("without a meet", -3, new DropTwo().fail());
  }

  private void give() {
    DropTwo x = both();
    edges.act(x, "marks 7 8;");
    edges.due("points", 15 * 15 * 20 / 2, x.give());
    edges.act(x, "fail;");
    edges.due("it failed", 0, x.give());
    edges.act(x, "all 20;");
    edges.due("points", 20 * 15 * 30, x.give());
    edges.act(x, "all 0;");
    edges.due("of 0", 0, x.give());
    edges.due("over", 1, x.look(8));
  }

  private void giveRefused() {
    DropTwo x = both();
    edges.stays("what is refused", x, () -> edges.due("none has marked", -3, x.give()));
    x.mark(0, 5);
    edges.stays("what is refused", x, () -> edges.due("one has not marked", -3, x.give()));
    x.mark(2, 5);
    edges.due("both have", 5 * 300, x.give());
    edges.due("over", -3, over().give());
    edges.due("without a meet", -3, new DropTwo().give());
  }

  private void out() {
    DropTwo x = edges.meet(FOUR + "cut 1 most 1;");
    edges.due("at the board", 3, x.out(0));
    edges.act(x, "all 5;give;");
    edges.due("behind its dive", 2, x.out(1));
    edges.act(x, "all 5;give;");
    edges.due("the last one of a round with a cut", 1, x.out(3));
    edges.due("nobody is left", 0, x.out(2));
    // The cut that comes then is counted.
    DropTwo y = edges.meet(FOUR + "cut 1 most 1;");
    edges.act(y, "all 5;give;all 6;give;all 4;give;");
    edges.due("behind the cut", 1, y.out(3));
    DropTwo z = edges.meet(FOUR + "cut 1 most 1;");
    edges.act(z, "all 5;give;all 6;give;all 4;give;");
    edges.due("not at the board, so no cut comes", 3, z.out(1));
  }

  private void outWrong() {
    DropTwo x = edges.meet(FOUR);
    edges.stays("what is wrong", x, () -> edges.beyond("out", 0, 3, -2, x::out));
    edges.due("over", -2, over().out(2));
    edges.due("without a meet", -2, new DropTwo().out(0));
  }

  private void outRefused() {
    DropTwo x = edges.meet(FOUR + "cut 1 most 1;");
    x.out(3);
    edges.stays("what is refused", x, () -> edges.due("withdrawn", -3, x.out(3)));
    edges.act(x, "all 5;give;all 6;give;all 4;give;");
    edges.stays("what is refused", x, () -> edges.due("cut", -3, x.out(0)));
    DropTwo over = over();
    edges.stays("what is refused", over, () -> {
      edges.due("over, though it is in", -3, over.out(0));
      edges.due("over, though it is in", -3, over.out(1));
    });
  }

  private void change() {
    DropTwo x = both();
    edges.due("the last round", 1, x.change(0, 2, 2));
    edges.due("list", 2, x.list(0, 2));
    edges.due("back", 2, x.change(0, 2, 1));
    edges.due("who is not at the board, its first round", 1, x.change(1, 1, 0));
    edges.due("list", 0, x.list(1, 1));
    edges.due("three acts", 3, x.look(7));
    edges.act(x, "all 5;give;");
    edges.due("degree of another dive", 20, x.dive(x.board(2), 1));
  }

  private void changeWrong() {
    DropTwo x = both();
    edges.stays("what is wrong", x, () -> {
      edges.beyond("change's entrant", 0, 1, -2, entrant -> x.change(entrant, 2, 2));
      edges.beyond("change's round", 1, 2, -2, round -> x.change(0, round, 2));
      edges.beyond("change's dive", 0, 2, -2, dive -> x.change(0, 2, dive));
    });
    edges.due("over", -2, over().change(0, 3, 0));
    edges.due("without a meet", -2, new DropTwo().change(0, 1, 0));
  }

  private void refused(DropTwo x, int entrant, int round, int dive) {
    edges.stays("what is refused", x, () -> edges.due("change(" + entrant + ", " + round + ", " + dive + ")", -3,
        x.change(entrant, round, dive)));
  }

  private void changeNotIn() {
    DropTwo x = both();
    x.out(1);
    refused(x, 1, 2, 0);
    refused(x, 1, 1, 0);
    DropTwo y = edges.meet(BOTH + "cut 1 most 1;");
    edges.act(y, "all 1;give;all 20;give;");
    edges.due("ann is cut", 1, y.entrant(0, 2));
    refused(y, 0, 2, 2);
  }

  private void changeGiven() {
    DropTwo x = both();
    edges.act(x, "all 1;give;");
    refused(x, 0, 1, 2);
    DropTwo y = both();
    edges.act(y, "fail;give;");
    refused(y, 0, 1, 2);
    edges.due("the next round", 1, y.change(0, 2, 2));
  }

  private void changeAtTheBoard() {
    DropTwo x = both();
    refused(x, 0, 1, 2);
    edges.act(x, "all 1;give;all 1;give;");
    refused(x, 0, 2, 2);
    edges.due("of the other that round", 2, x.change(1, 2, 0));
  }

  private void changeOver() {
    DropTwo x = over();
    refused(x, 0, 2, 2);
    DropTwo y = both();
    edges.act(y, "out ann;out duo;");
    refused(y, 0, 2, 2);
    // Who is in when nobody is at the board any more has no round that was not given.
    refused(x, 1, 1, 0);
  }

  private void changeTwice() {
    DropTwo x = both();
    refused(x, 0, 2, 0);
    refused(x, 0, 2, 1);
    edges.act(x, "all 1;give;");
    refused(x, 0, 2, 0);
    edges.due("what another list has is free", 1, x.change(0, 2, 2));
    DropTwo six = edges.meet(EdgesOfMeets.rounds(6, 0, "dive g group 1 degree 20;"));
    for (int dive = 0; dive < 6; dive++) {
      edges.due("change of the second round", -3, six.change(0, 2, dive));
      edges.due("change of the last round", -3, six.change(0, 6, dive));
    }
    edges.due("the one that is left", 5, six.change(0, 6, 6));
    edges.due("what it was is free then", 1, six.change(0, 2, 5));
  }

  private void changeBreaks() {
    DropTwo x = edges.meet(BOTH + "law not group=3 or pair=1;");
    refused(x, 0, 2, 2);
    DropTwo y = edges.meet(BOTH + "law 1=2;");
    refused(y, 0, 2, 2);
    // A list that does not obey may be made to; all rounds are looked at.
    DropTwo z = edges.meet(BOTH + "law not group=2;");
    edges.due("it obeys then", 1, z.change(0, 2, 2));
    DropTwo w = edges.meet(BOTH + "law not group=1;");
    refused(w, 0, 2, 2);
    DropTwo v = edges.meet(BOTH + "dive tw group 1 degree 20;law seen=1;");
    refused(v, 0, 2, 3);
    edges.due("of another list", 1, v.change(1, 1, 3));
  }

  private void undo() {
    DropTwo x = both();
    x.mark(0, 5);
    x.mark(2, 6);
    x.give();
    edges.due("give", 2, x.undo());
    edges.due("at the board", 0, x.board(0));
    edges.due("not given", -1, x.points(0, 1));
    edges.due("total", 0, x.total(0, 0));
    edges.due("marks are back", 2, x.board(3));
    edges.due("mark", 1, x.undo());
    edges.due("one mark", 1, x.board(3));
    edges.due("mark", 0, x.undo());
    edges.due("none", 0, x.board(3));
    String[] acts = {"mark", "balk", "cap", "half", "fail", "give", "out", "change", "script"};
    for (int act = 0; act < acts.length; act++) {
      undone(acts[act], act);
    }
    // Behind a cut: who was cut is in again, totals are as they were.
    DropTwo y = edges.meet(FOUR + "cut 1 most 1 anew;");
    edges.act(y, "all 5;give;all 6;give;all 4;give;all 3;");
    y.give();
    edges.due("one is in", 1, y.look(9));
    edges.due("undo", 1, y.undo());
    edges.due("all are in", 4, y.look(9));
    edges.due("total", 6 * 300, y.total(1, 0));
    edges.due("its dive is one of its total", 6 * 300, y.asDrop(0, 1));
    edges.due("at the board", 3, y.board(0));
  }

  /** One act by its call, with others ahead of it: all is as it was behind them. */
  private void undone(String name, int act) {
    DropTwo x = edges.meet(BOTH + "dive tw group 4 degree 20;cut 1 most 2 anew;");
    edges.act(x, "all 1;give;half second;all 9;cap 8;");
    x.mark(1, 3);
    x.mark(3, 20);
    edges.stays("undo of " + name, x, () -> {
      int[] answers = {
        act == 0 ? x.mark(1, 4) : 0, act == 1 ? x.balk() : 0, act == 2 ? x.cap(3) : 0, act == 3 ? x.half(0) : 0,
        act == 4 ? x.fail() : 0, act == 5 ? x.give() : 0, act == 6 ? x.out(1) : 0, act == 7 ? x.change(0, 2, 3) : 0,
        act == 8 ? Check.script(x, "balk;give;all 3;give;") : 0
      };
      edges.isTrue(name + " is done", answers[act] >= 0);
      edges.due("acts behind " + name, 4, x.look(7));
      edges.due("undo of " + name, 3, x.undo());
    });
  }

  private void undoRefused() {
    DropTwo x = both();
    edges.stays("nothing yet", x, () -> edges.due("undo", -3, x.undo()));
    x.cap(3);
    x.undo();
    edges.stays("nothing more", x, () -> edges.due("undo", -3, x.undo()));
    for (int i = 0; i < 21; i++) {
      x.cap(i);
    }
    for (int i = 0; i < 20; i++) {
      x.undo();
    }
    edges.stays("the 21st", x, () -> edges.due("undo", -3, x.undo()));
    edges.due("the first one stays", 0, x.board(6));
    edges.due("without a meet", -3, new DropTwo().undo());
  }
}
