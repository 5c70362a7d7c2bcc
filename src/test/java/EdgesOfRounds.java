/** Terms ==== 3: who dives next, cuts, totals, acts, ranks. */
final class EdgesOfRounds {
  /** Four divers with one judge: each half point is worth 300 in each of three rounds. */
  static final String FOUR =
      "rounds 3 drop 0;judge land 1;dive fa group 1 degree 20;dive ba group 2 degree 20;"
          + "dive re group 3 degree 20;diver a land 1;diver b land 1;diver c land 1;diver d land 1;"
          + "list a fa ba re;list b fa ba re;list c fa ba re;list d fa ba re;";

  private final Edges edges;

  EdgesOfRounds(Edges edges) {
    this.edges = edges;
  }

  void all() {
    edges.says(0, "In each ROUND those who are IN (at first all) dive in ORDER, one at THE BOARD: at first by numbers;",
        this::firstRound);
    edges.says(0, "behind a CUT by TOTALS, the least first,", this::byTotals);
    edges.says(0, "of like ones the greater number first;", this::likeTotals);
    edges.says(0, "else as in the ROUND ahead.", this::asAhead);
    edges.says(0, "Behind the last one of a ROUND with a CUT those go on who have the so many greatest TOTALS"
        + " of all who are IN,", this::goOn);
    edges.says(0, "and who has as much as the last of these; the others are CUT.", this::asMuchAsTheLast);
    edges.says(0, "(anew: TOTALS of those who go on begin at 0 then; ORDER is by those ahead of that.)", this::anew);
    edges.says(0, "Behind the last ROUND, or if nobody is IN, it is OVER: nobody is at THE BOARD.", this::over);
    edges.says(0, "TOTAL: POINTS of all ROUNDS that were given, from the last CUT anew in which it went on.", this::totals);
    edges.says(0, "ACTS: a JUDGE marks;", this::marks);
    edges.says(0, "a BALK (the second one of a DIVE: it FAILS);", this::balks);
    edges.says(0, "a CAP;", this::caps);
    edges.says(0, "a half of a pair FAILS (both: the DIVE itself does not);", this::halves);
    edges.says(0, "a DIVE FAILS (what was marked goes then);", this::fails);
    edges.says(0, "it is given (its POINTS are told, the next one is at THE BOARD);", this::gives);
    edges.says(0, "an ENTRANT goes out (WITHDRAWN; is it at THE BOARD, that DIVE is not given);", this::goesOut);
    edges.says(0, "a LIST is changed; a SCRIPT.", this::changesAndScripts);
    edges.says(0, "The last 20 can be undone.", this::twenty);
    edges.says(0, "RANK: 1 and how many are ahead:", this::rank);
    edges.says(0, "who is IN of who is not,", this::inAhead);
    edges.says(0, "who is CUT of who is WITHDRAWN,", this::cutAhead);
    edges.says(0, "who is CUT behind a later ROUND of who is behind an earlier one;", this::laterAhead);
    edges.says(0, "of others the greater TOTAL.", this::totalAhead);
  }

  private DropTwo four(String behind, String acts) {
    DropTwo x = edges.meet(FOUR + behind);
    edges.act(x, acts);
    return x;
  }

  /** A round in which all mark like awards, one dive behind the other. */
  private static String round(int... awards) {
    StringBuilder acts = new StringBuilder();
    for (int award : awards) {
      acts.append("all ").append(award).append(";give;");
    }
    return acts.toString();
  }

  /** Who is at the board, one behind the other, each with a dive that fails. */
  private void order(DropTwo x, int round, int... entrants) {
    for (int entrant : entrants) {
      edges.due("round", round, x.board(1));
      edges.due("at the board", entrant, x.board(0));
      edges.act(x, "fail;give;");
    }
  }

  private void firstRound() {
    DropTwo x = four("", "");
    edges.due("all are in", 4, x.look(9));
    order(x, 1, 0, 1, 2, 3);
    order(x, 2, 0, 1, 2, 3);
    order(x, 3, 0, 1, 2, 3);
    DropTwo out = four("", "out c;");
    order(out, 1, 0, 1, 3);
    order(out, 2, 0, 1, 3);
    DropTwo behind = four("", "fail;give;fail;give;out a;");
    order(behind, 1, 2, 3);
    order(behind, 2, 1, 2, 3);
  }

  private void byTotals() {
    order(four("cut 1 most 5;", round(7, 5, 6, 4)), 2, 3, 1, 2, 0);
    order(four("cut 1 most 3;", round(7, 5, 6, 4)), 2, 1, 2, 0);
    order(four("cut 2 most 5;", round(7, 5, 6, 4) + round(0, 9, 0, 0)), 3, 3, 2, 0, 1);
  }

  private void likeTotals() {
    order(four("cut 1 most 5;", round(5, 5, 5, 5)), 2, 3, 2, 1, 0);
    order(four("cut 1 most 5;", round(7, 5, 7, 5)), 2, 3, 1, 2, 0);
    order(four("cut 1 most 1;", round(0, 0, 0, 0)), 2, 3, 2, 1, 0);
  }

  private void asAhead() {
    DropTwo x = four("cut 1 most 5;", round(7, 5, 6, 4));
    edges.act(x, round(20, 1, 1, 1));
    order(x, 3, 3, 1, 2, 0);
    DropTwo y = four("cut 2 most 5;", round(7, 5, 6, 4));
    order(y, 2, 0, 1, 2, 3);
    DropTwo out = four("cut 1 most 5;", round(7, 5, 6, 4) + "out b;");
    order(out, 2, 3, 2, 0);
    order(out, 3, 3, 2, 0);
  }

  private void status(DropTwo x, int... due) {
    for (int entrant = 0; entrant < due.length; entrant++) {
      edges.due("entrant(" + entrant + ", 2)", due[entrant], x.entrant(entrant, 2));
    }
  }

  private void goOn() {
    status(four("cut 1 most 1;", round(7, 5, 8, 4)), 1, 1, 0, 1);
    status(four("cut 1 most 3;", round(7, 5, 8, 4)), 0, 0, 0, 1);
    status(four("cut 1 most 4;", round(7, 5, 8, 4)), 0, 0, 0, 0);
    status(four("cut 1 most 5;", round(7, 5, 8, 4)), 0, 0, 0, 0);
    // Not ahead of the last one's dive, and of those who are in alone.
    status(four("cut 1 most 1;", round(7, 5, 8)), 0, 0, 0, 0);
    status(four("cut 1 most 1;", round(7, 5, 8) + "out c;" + round(4)), 0, 1, 7, 1);
    status(four("cut 1 most 1;", round(7, 5, 8) + "out d;"), 1, 1, 0, 7);
    // Behind the second round by both rounds' points.
    status(four("cut 2 most 1;", round(7, 5, 8, 4) + round(0, 4, 0, 0)), 2, 0, 2, 2);
  }

  private void asMuchAsTheLast() {
    status(four("cut 1 most 2;", round(7, 5, 8, 7)), 0, 1, 0, 0);
    status(four("cut 1 most 1;", round(8, 5, 8, 7)), 0, 1, 0, 1);
    status(four("cut 1 most 1;", round(5, 5, 5, 5)), 0, 0, 0, 0);
    status(four("cut 1 most 3;", round(9, 5, 5, 5)), 0, 0, 0, 0);
    DropTwo x = four("cut 1 most 2;", round(7, 5, 8, 7));
    edges.due("how many are in", 3, x.look(9));
    edges.due("who is cut dives no more", 3, x.board(0));
  }

  private void anew() {
    DropTwo x = four("cut 1 most 3 anew;", round(7, 5, 8, 4));
    int[] due = {0, 0, 0, 4 * 300};
    for (int entrant = 0; entrant < 4; entrant++) {
      edges.due("total of " + entrant, due[entrant], x.total(entrant, 0));
    }
    edges.due("all points", 7 * 300, x.total(0, 1));
    order(x, 2, 1, 0, 2);
    DropTwo y = four("cut 1 most 3;", round(7, 5, 8, 4));
    edges.due("not anew", 7 * 300, y.total(0, 0));
  }

  private void over() {
    DropTwo x = four("", round(1, 1, 1, 1).repeat(3));
    edges.due("over", 1, x.look(8));
    for (int what = 0; what <= 8; what++) {
      edges.due("board(" + what + ")", -1, x.board(what));
    }
    edges.due("all are in still", 4, x.look(9));
    DropTwo nearly = four("", round(1, 1, 1, 1).repeat(2) + round(1, 1, 1));
    edges.due("the last dive is left", 0, nearly.look(8));
    edges.due("out at the last dive", 3, nearly.out(3));
    edges.due("over", 1, nearly.look(8));
    DropTwo out = four("", "out a;out d;out b;");
    edges.due("one is in", 0, out.look(8));
    edges.due("the one", 2, out.board(0));
    edges.due("nobody is in", 0, out.out(2));
    edges.due("over", 1, out.look(8));
    edges.due("nobody is at the board", -1, out.board(0));
    DropTwo cut = four("cut 1 most 1;", round(1, 1, 1) + "out a;out b;out c;out d;");
    edges.due("over, with a cut ahead", 1, cut.look(8));
    status(cut, 7, 7, 7, 7);
  }

  private void totals() {
    DropTwo x = four("cut 1 most 3 anew;cut 2 most 2 anew;", round(7, 6, 8, 4));
    // Now b, a, c with 1, 2, 3.
    edges.act(x, round(1, 2, 3));
    int[] due = {0, 1 * 300, 0, 4 * 300};
    for (int entrant = 0; entrant < 4; entrant++) {
      edges.due("total of " + entrant, due[entrant], x.total(entrant, 0));
    }
    edges.act(x, "all 5;give;");
    edges.due("from the last cut anew", 5 * 300, x.total(0, 0));
    DropTwo y = four("cut 1 most 3 anew;cut 2 most 2;", round(7, 6, 8, 4) + round(1, 2, 3));
    edges.due("the last one is not anew", 2 * 300, y.total(0, 0));
    DropTwo z = four("cut 1 most 3 anew;", "all 7;give;out a;" + round(6, 8, 4));
    edges.due("it did not go on", 7 * 300, z.total(0, 0));
    DropTwo w = four("", round(7, 6, 8, 4) + round(1));
    edges.due("all rounds given", 8 * 300, w.total(0, 0));
    edges.due("marked is not given", 6 * 300, w.total(1, 0));
  }

  private void marks() {
    DropTwo x = four("", "");
    edges.due("mark", 1, x.mark(0, 7));
    edges.due("an act", 1, x.look(7));
    edges.due("again", 1, x.mark(0, 7));
    edges.due("an act again", 2, x.look(7));
    edges.due("undone", 1, x.undo());
    edges.due("undone", 0, x.undo());
    edges.due("nothing is marked", -1, x.marked(0));
  }

  private void balks() {
    DropTwo x = four("", "all 7;");
    edges.due("the first one", 1, x.balk());
    edges.due("it did not fail", 0, x.board(8));
    edges.due("marks stay", 7, x.marked(0));
    edges.due("the second one", 2, x.balk());
    edges.due("it failed", 1, x.board(8));
    edges.due("marks are gone", -1, x.marked(0));
    edges.due("points", 0, x.give());
    edges.due("the next dive has none", 0, x.board(5));
    edges.due("its first one", 1, x.balk());
    edges.due("it did not fail", 0, x.board(8));
    edges.due("each is an act", 5, x.look(7));
  }

  private void caps() {
    DropTwo x = four("", "");
    edges.due("a cap", 20, x.cap(3));
    edges.due("an act", 1, x.look(7));
    edges.due("undone", 0, x.undo());
    edges.due("as it was", 20, x.board(6));
  }

  private static final String DUO =
      "rounds 1 drop 0;judge land 1 first;judge land 1 second;judge land 1 together;"
          + "dive fa group 1 degree 20;pair duo land 1;list duo fa;";

  private void halves() {
    DropTwo x = edges.meet(DUO);
    edges.act(x, "all 9;");
    edges.due("the first", 1, x.half(0));
    edges.due("both", 3, x.half(1));
    edges.due("it did not fail", 0, x.board(8));
    edges.due("marks stay", 3, x.board(3));
    edges.due("points of what is together", 4 * 15 * 20 / 3, x.give());
  }

  private void fails() {
    DropTwo x = edges.meet(DUO);
    x.mark(0, 9);
    x.mark(2, 9);
    edges.due("fail", 0, x.fail());
    for (int judge = 0; judge < 3; judge++) {
      edges.due("marked(" + judge + ")", -1, x.marked(judge));
    }
    edges.due("how many have marked", 0, x.board(3));
    edges.due("undone", 2, x.undo());
    edges.due("marks are back", 2, x.board(3));
  }

  private void gives() {
    DropTwo x = four("", "all 7;");
    edges.due("its points", 7 * 300, x.give());
    edges.due("the next one", 1, x.board(0));
    edges.due("nothing is marked", 0, x.board(3));
    edges.act(x, round(1, 1, 1));
    edges.due("the first one again", 0, x.board(0));
    edges.due("round", 2, x.board(1));
    edges.due("the dive of that round", 1, x.board(2));
  }

  private void goesOut() {
    DropTwo x = four("", "all 7;");
    edges.due("out at the board", 3, x.out(0));
    edges.due("withdrawn", 7, x.entrant(0, 2));
    edges.due("its dive is not given", -1, x.points(0, 1));
    edges.due("none was given", 0, x.entrant(0, 3));
    edges.due("the next one", 1, x.board(0));
    edges.due("with nothing marked", 0, x.board(3));
    edges.act(x, "all 5;");
    edges.due("another one out", 2, x.out(3));
    edges.due("who is at the board stays", 1, x.board(0));
    edges.due("with what was marked", 5, x.marked(0));
    edges.due("what was given stays", 5 * 300, x.give());
    edges.due("out behind its dive", 1, x.out(1));
    edges.due("its points stay", 5 * 300, x.points(1, 1));
    edges.due("undone", 5, x.undo());
    edges.due("in again", 0, x.entrant(1, 2));
  }

  private void changesAndScripts() {
    DropTwo x = edges.meet(FOUR + "dive tw group 4 degree 20;");
    edges.due("a list is changed", 1, x.change(0, 2, 3));
    edges.due("an act", 1, x.look(7));
    edges.act(x, "all 5;give;all 5;");
    edges.due("a script is one", 2, x.look(7));
    edges.due("undone", 1, x.undo());
    edges.due("all of it", 0, x.board(0));
    edges.due("undone", 0, x.undo());
    edges.due("the list as it was", 1, x.list(0, 2));
  }

  private void twenty() {
    DropTwo x = four("", "");
    for (int i = 1; i <= 25; i++) {
      x.mark(0, i % 21);
      edges.due("look(7) behind " + i, Math.min(20, i), x.look(7));
    }
    for (int left = 19; left >= 0; left--) {
      edges.due("undo", left, x.undo());
      edges.due("marked", (left + 5) % 21, x.marked(0));
    }
    edges.due("no more", -3, x.undo());
    edges.due("the first five stay", 5, x.marked(0));
    edges.due("a new one", 1, x.mark(0, 9));
    edges.due("can be undone", 0, x.undo());
    edges.due("as it was", 5, x.marked(0));
  }

  private void ranks(DropTwo x, int... due) {
    for (int entrant = 0; entrant < due.length; entrant++) {
      edges.due("rank(" + entrant + ")", due[entrant], x.rank(entrant));
    }
  }

  private void rank() {
    ranks(four("", ""), 1, 1, 1, 1);
    ranks(four("", round(7, 5, 7, 4)), 1, 3, 1, 4);
    ranks(four("", round(5, 7, 5, 5)), 2, 1, 2, 2);
    ranks(four("", round(4, 5, 6, 7)), 4, 3, 2, 1);
  }

  private void inAhead() {
    ranks(four("cut 1 most 1 anew;", round(7, 5, 8, 4)), 2, 3, 1, 4);
    ranks(four("", round(7, 5, 8) + "out c;"), 1, 2, 4, 3);
    ranks(four("", "all 20;give;out a;"), 4, 1, 1, 1);
  }

  private void cutAhead() {
    ranks(four("cut 1 most 1;", round(9, 5, 8) + "out a;" + round(4)), 4, 2, 1, 3);
    ranks(four("cut 1 most 1;", round(9, 0, 8) + "out a;" + round(0)), 4, 2, 1, 2);
  }

  private void laterAhead() {
    // d is cut behind round 1 with 4, a behind round 2: anew, with less points.
    ranks(four("cut 1 most 3 anew;cut 2 most 1;", round(7, 6, 8, 5) + round(4, 1, 3)), 3, 1, 2, 4);
    // Two cut behind one round by their totals.
    ranks(four("cut 1 most 2;cut 2 most 1;", round(7, 6, 8, 5) + round(0, 1)), 2, 3, 1, 4);
  }

  private void totalAhead() {
    ranks(four("", "all 7;give;all 8;give;out b;out a;"), 4, 3, 1, 1);
    ranks(four("", "out b;out a;out c;out d;"), 1, 1, 1, 1);
    ranks(four("cut 1 most 2;", round(7, 6, 8, 6)), 2, 3, 1, 3);
    DropTwo x = four("cut 1 most 2 anew;", round(7, 6, 8, 5));
    ranks(x, 1, 3, 1, 4);
    edges.act(x, round(1));
    ranks(x, 1, 3, 2, 4);
  }
}
