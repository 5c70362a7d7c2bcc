/** Promises 21 to 31: the board, acts, who is next, undo. */
public final class BoardTest {
  private static final Check CHECK = new Check("board");
  private static final String DIVERS =
      "rounds 2 drop 0;judge land 1;judge land 2;judge land 3 first;judge land 3 second;"
          + "judge land 3 together;dive fa group 1 degree 20;dive ba group 2 degree 30;"
          + "dive re group 3 degree 25;diver ann land 1;pair duo land 2;diver cy land 3;"
          + "list ann fa ba;list duo ba re;list cy re fa;";

  public static void main(String[] args) {
    marking();
    balking();
    capping();
    halving();
    failing();
    giving();
    goingOut();
    goingOutAtTheEnd();
    goingOutAheadOfACut();
    changing();
    undoing();
    orders();
    anew();
    ties();
    CHECK.finish();
  }

  private static DropTwo meet(String text) {
    DropTwo x = new DropTwo();
    CHECK.isTrue("meet", Check.meet(x, text) > 0);
    return x;
  }

  private static void board(DropTwo x, int... due) {
    for (int what = 0; what < due.length; what++) {
      CHECK.due("board(" + what + ")", due[what], x.board(what));
    }
  }

  private static void marking() {
    DropTwo x = meet(DIVERS);
    board(x, 0, 1, 0, 0, 2, 0, 20, 0, 0, -1);
    CHECK.due("board(-1)", -1, x.board(-1));
    CHECK.due("marked(0)", -1, x.marked(0));
    CHECK.due("mark(1, 20)", 1, x.mark(1, 20));
    CHECK.due("mark(1, 0)", 1, x.mark(1, 0));
    CHECK.due("marked(1)", 0, x.marked(1));
    CHECK.due("mark(0, 7)", 2, x.mark(0, 7));
    CHECK.due("marked(0)", 7, x.marked(0));
    CHECK.due("marked(2)", -1, x.marked(2));
    CHECK.due("marked(5)", -1, x.marked(5));
    CHECK.due("marked(-1)", -1, x.marked(-1));
    CHECK.due("no such judge", -2, x.mark(5, 7));
    CHECK.due("no such judge", -2, x.mark(-1, 7));
    CHECK.due("no such award", -2, x.mark(0, 21));
    CHECK.due("no such award", -2, x.mark(0, -1));
    CHECK.due("no such award, and none of its judges", -2, x.mark(2, 21));
    CHECK.due("none of its judges", -3, x.mark(2, 7));
    CHECK.due("each is an act", 3, x.look(7));
    CHECK.due("board(3)", 2, x.board(3));
    x.give();
    board(x, 1, 1, 1, 0, 3, 0, 20, 0, 0, -1);
    CHECK.due("a judge of divers", -3, x.mark(0, 7));
    CHECK.due("a judge of pairs", 1, x.mark(4, 7));
    x.fail();
    CHECK.due("it failed", -3, x.mark(4, 7));
    CHECK.due("no such judge of one that failed", -2, x.mark(9, 7));
  }

  private static void balking() {
    DropTwo x = meet(DIVERS);
    Check.script(x, "all 10;");
    CHECK.due("balk", 1, x.balk());
    CHECK.due("marks stay", 2, x.board(3));
    CHECK.due("balks", 1, x.board(5));
    CHECK.due("give", 1800, x.give());
    CHECK.due("the next one has none", 0, x.board(5));
    Check.script(x, "cap 9;half second;all 3;");
    CHECK.due("balk", 1, x.balk());
    CHECK.due("the second one", 2, x.balk());
    board(x, 1, 1, 1, 0, 3, 2, 9, 2, 1, -1);
    CHECK.due("a third one", -3, x.balk());
    CHECK.due("give", 0, x.give());
  }

  private static void capping() {
    DropTwo x = meet(DIVERS);
    CHECK.due("cap", 20, x.cap(9));
    CHECK.due("cap again", 9, x.cap(0));
    CHECK.due("greater", 0, x.cap(20));
    CHECK.due("no such award", -2, x.cap(21));
    CHECK.due("no such award", -2, x.cap(-1));
    CHECK.due("cap", 20, x.cap(13));
    CHECK.due("board(6)", 13, x.board(6));
    x.mark(0, 20);
    x.mark(1, 12);
    CHECK.due("the award itself stays", 20, x.marked(0));
    CHECK.due("give", 25 * 15 * 20 / 2, x.give());
    CHECK.due("the next one has none", 20, x.board(6));
    x.fail();
    CHECK.due("it failed", -3, x.cap(3));
    CHECK.due("no such award of one that failed", -2, x.cap(21));
  }

  private static void halving() {
    DropTwo x = meet(DIVERS);
    CHECK.due("no pair", -3, x.half(0));
    CHECK.due("no such half", -2, x.half(2));
    CHECK.due("no such half", -2, x.half(-1));
    Check.script(x, "all 1;give;");
    CHECK.due("the second", 2, x.half(1));
    CHECK.due("the second again", -3, x.half(1));
    CHECK.due("the first", 3, x.half(0));
    CHECK.due("the first again", -3, x.half(0));
    CHECK.due("the dive itself did not fail", 0, x.board(8));
    Check.script(x, "marks 20 19 18;");
    CHECK.due("only what is together counts", 4 * 15 * 30 / 3, x.give());
    DropTwo y = meet(DIVERS);
    Check.script(y, "all 1;give;fail;");
    CHECK.due("it failed", -3, y.half(0));
  }

  private static void failing() {
    DropTwo x = meet(DIVERS);
    x.mark(0, 4);
    CHECK.due("fail", 0, x.fail());
    CHECK.due("what was marked is gone", 0, x.board(3));
    CHECK.due("what was marked is gone", -1, x.marked(0));
    CHECK.due("board(8)", 1, x.board(8));
    CHECK.due("again", -3, x.fail());
    CHECK.due("balk", -3, x.balk());
    CHECK.due("give", 0, x.give());
    CHECK.due("points", 0, x.points(0, 1));
    CHECK.due("the next one did not", 0, x.board(8));
  }

  private static void giving() {
    DropTwo x = meet(DIVERS);
    CHECK.due("not all have marked", -3, x.give());
    x.mark(0, 4);
    CHECK.due("not all have marked", -3, x.give());
    x.mark(1, 5);
    CHECK.due("give", 9 * 15 * 20 / 2, x.give());
    CHECK.due("next", 1, x.board(0));
    Check.script(x, "all 1;give;all 1;give;");
    board(x, 0, 2, 1, 0, 2, 0, 20, 0, 0);
    Check.script(x, "all 1;give;all 1;give;");
    CHECK.due("the last one", 0, x.look(8));
    Check.script(x, "all 1;");
    CHECK.due("the last one is given", 1 * 15 * 20, x.give());
    CHECK.due("over", 1, x.look(8));
    CHECK.due("all are in", 3, x.look(9));
    board(x, -1, -1, -1, -1, -1, -1, -1, -1, -1);
    CHECK.due("give", -3, x.give());
    CHECK.due("balk", -3, x.balk());
    CHECK.due("fail", -3, x.fail());
    CHECK.due("cap", -3, x.cap(3));
    CHECK.due("half", -3, x.half(0));
    CHECK.due("mark", -3, x.mark(0, 3));
    CHECK.due("marked", -1, x.marked(0));
    CHECK.due("out", -3, x.out(0));
    CHECK.due("change", -3, x.change(0, 2, 2));
  }

  private static void goingOut() {
    DropTwo x = meet(DIVERS);
    CHECK.due("no such one", -2, x.out(3));
    CHECK.due("no such one", -2, x.out(-1));
    x.mark(0, 9);
    CHECK.due("out at the board", 2, x.out(0));
    CHECK.due("its dive is not given", -1, x.points(0, 1));
    CHECK.due("next", 1, x.board(0));
    CHECK.due("again", -3, x.out(0));
    CHECK.due("out elsewhere", 1, x.out(2));
    CHECK.due("still there", 1, x.board(0));
    Check.script(x, "all 5;give;");
    board(x, 1, 2);
    CHECK.due("the last one", 0, x.out(1));
    CHECK.due("over", 1, x.look(8));
    CHECK.due("nobody is there", -1, x.board(0));
    CHECK.due("out of a meet that is over", -3, x.out(1));
    CHECK.due("undo", 4, x.undo());
    board(x, 1, 2, 2);
  }

  private static void goingOutAtTheEnd() {
    // Out as the last one of a round: the next round begins, the cut is made.
    DropTwo x = meet(DIVERS + "cut 1 most 1;");
    Check.script(x, "all 5;give;all 9;give;");
    CHECK.due("out at the board, one of the others is cut", 1, x.out(2));
    CHECK.due("one is in", 1, x.look(9));
    CHECK.due("cut", 1, x.entrant(0, 2));
    CHECK.due("withdrawn", 7, x.entrant(2, 2));
    board(x, 1, 2);
    // Out behind its own dive: it counts no more.
    DropTwo y = meet(DIVERS + "cut 1 most 1;");
    Check.script(y, "all 20;give;all 9;give;");
    CHECK.due("out", 2, y.out(0));
    Check.script(y, "all 8;give;");
    CHECK.due("duo goes on", 0, y.entrant(1, 2));
    CHECK.due("cy does not", 1, y.entrant(2, 2));
    CHECK.due("ann is out", 7, y.entrant(0, 2));
    CHECK.due("who is cut can't go out", -3, y.out(2));
  }

  /** The answer of out() is how many are in behind the cut that it brings. */
  private static void goingOutAheadOfACut() {
    DropTwo x = meet("rounds 3 drop 0;" + FOUR + "cut 1 most 1;");
    Check.script(x, "all 7;give;all 5;give;all 7;give;");
    CHECK.due("two have the most", 2, x.out(3));
    CHECK.due("b is cut", 1, x.entrant(1, 2));
    CHECK.due("undo", 1, x.undo());
    CHECK.due("the cut is undone, too", 4, x.look(9));
    CHECK.due("not at the board: no cut comes yet", 3, x.out(1));
    CHECK.due("it comes now", 2, x.out(3));
    DropTwo y = meet("rounds 3 drop 0;" + FOUR + "cut 1 most 2 anew;cut 2 most 1;");
    Check.script(y, "all 7;give;all 5;give;all 6;give;");
    CHECK.due("two go on anew", 2, y.out(3));
    board(y, 2, 2);
    Check.script(y, "all 5;give;");
    CHECK.due("one is left, and goes on", 1, y.out(0));
    board(y, 2, 3);
    CHECK.due("nobody is left", 0, y.out(2));
    CHECK.due("over", 1, y.look(8));
    DropTwo z = meet("rounds 3 drop 0;" + FOUR + "cut 2 most 1;");
    Check.script(z, "all 7;give;all 5;give;all 6;give;");
    CHECK.due("behind a round without a cut all go on", 3, z.out(3));
    board(z, 0, 2);
    Check.script(z, "all 7;give;all 5;give;");
    CHECK.due("as an act of a script", 1, Check.script(z, "out c;"));
    CHECK.due("a alone is in", 1, z.look(9));
    CHECK.due("b is cut", 2, z.entrant(1, 2));
  }

  private static void changing() {
    DropTwo x = meet(DIVERS + "law seen = 1;law not group = 3 or round = 2 or pair = 1;");
    CHECK.due("no such entrant", -2, x.change(3, 2, 0));
    CHECK.due("no such round", -2, x.change(0, 3, 0));
    CHECK.due("no such round", -2, x.change(0, 0, 0));
    CHECK.due("no such dive", -2, x.change(0, 2, 3));
    CHECK.due("no such dive", -2, x.change(0, 2, -1));
    CHECK.due("at the board", -3, x.change(0, 1, 1));
    CHECK.due("has it already", -3, x.change(0, 2, 0));
    CHECK.due("has it there", -3, x.change(0, 2, 1));
    CHECK.due("another one", 1, x.change(0, 2, 2));
    CHECK.due("list", 2, x.list(0, 2));
    CHECK.due("has it in another round", -3, x.change(1, 1, 2));
    CHECK.due("cy does not obey as told", 1, x.breaks(2, 0));
    CHECK.due("cy would obey", 2, x.change(2, 1, 1));
    CHECK.due("cy obeys", 0, x.breaks(2, 0));
    CHECK.due("it would not obey", -3, x.change(2, 1, 2));
    CHECK.due("undo", 1, x.undo());
    CHECK.due("as it was", 2, x.list(2, 1));
    CHECK.due("undo", 0, x.undo());
    CHECK.due("as it was", 1, x.list(0, 2));
    Check.script(x, "all 5;give;");
    CHECK.due("given", -3, x.change(0, 1, 2));
    CHECK.due("a round ahead", 1, x.change(0, 2, 2));
    CHECK.due("out", 2, x.out(0));
    CHECK.due("not in", -3, x.change(0, 2, 1));
    CHECK.due("not in, no such dive", -2, x.change(0, 2, 9));
    DropTwo failed = meet(DIVERS);
    Check.script(failed, "fail;give;");
    CHECK.due("given, with no points", -3, failed.change(0, 1, 2));
    DropTwo y = meet(DIVERS);
    CHECK.due("ahead of its turn", 1, y.change(1, 1, 0));
    Check.script(y, "all 5;give;");
    CHECK.due("the dive at the board", 0, y.board(2));
  }

  private static void undoing() {
    DropTwo x = meet(DIVERS);
    CHECK.due("none", -3, x.undo());
    for (int i = 0; i <= 20; i++) {
      CHECK.due("cap", i == 0 ? 20 : i - 1, x.cap(i));
      CHECK.due("look(7)", Math.min(20, i + 1), x.look(7));
    }
    CHECK.due("a wrong one is no act", -2, x.cap(21));
    CHECK.due("a wrong one is no act", -3, x.mark(3, 1));
    for (int i = 19; i >= 0; i--) {
      CHECK.due("undo", i, x.undo());
      CHECK.due("cap", i, x.board(6));
    }
    CHECK.due("no more than twenty", -3, x.undo());
    CHECK.due("the oldest one stays", 0, x.board(6));
    Check.script(x, "all 5;give;all 6;give;");
    x.balk();
    CHECK.due("undo", 1, x.undo());
    CHECK.due("a script is one act", 0, x.undo());
    board(x, 0, 1, 0, 0, 2, 0, 0);
    CHECK.due("totals too", 0, x.total(0, 0));
    CHECK.due("given too", 0, x.entrant(0, 3));
    Check.script(x, "fail;give;fail;give;fail;give;fail;give;fail;give;fail;give;");
    CHECK.due("over", 1, x.look(8));
    CHECK.due("undo", 0, x.undo());
    CHECK.due("not over", 0, x.look(8));
  }

  private static final String FOUR =
      "judge land 1;dive fa group 1 degree 20;dive ba group 2 degree 20;dive re group 3 degree 20;"
          + "diver a land 1;diver b land 1;diver c land 1;diver d land 1;"
          + "list a fa ba re;list b fa ba re;list c fa ba re;list d fa ba re;";

  private static void orders() {
    DropTwo x = meet("rounds 3 drop 0;" + FOUR + "cut 1 most 3;");
    Check.script(x, "all 7;give;all 5;give;all 6;give;all 4;give;");
    CHECK.due("d is cut", 1, x.entrant(3, 2));
    CHECK.due("the least first", 1, x.board(0));
    Check.script(x, "all 20;give;");
    CHECK.due("then c", 2, x.board(0));
    Check.script(x, "all 1;give;");
    CHECK.due("then a", 0, x.board(0));
    Check.script(x, "all 1;give;");
    board(x, 1, 3);
    Check.script(x, "all 1;give;");
    CHECK.due("as in the round ahead", 2, x.board(0));
    // A cut in which all go on puts them in order, too.
    DropTwo y = meet("rounds 3 drop 0;" + FOUR + "cut 2 most 5;");
    Check.script(y, "all 7;give;all 5;give;all 6;give;all 4;give;");
    CHECK.due("by numbers", 0, y.board(0));
    Check.script(y, "all 7;give;all 5;give;all 6;give;all 4;give;");
    CHECK.due("all are in", 4, y.look(9));
    board(y, 3, 3);
  }

  private static void anew() {
    DropTwo x = meet("rounds 3 drop 0;" + FOUR + "cut 1 most 2 anew;cut 2 most 1;");
    Check.script(x, "all 7;give;all 5;give;all 6;give;all 4;give;");
    CHECK.due("c ahead of a", 2, x.board(0));
    CHECK.due("a begins anew", 0, x.total(0, 0));
    CHECK.due("all points", 7 * 300, x.total(0, 1));
    CHECK.due("who is cut does not", 5 * 300, x.total(1, 0));
    Check.script(x, "all 3;give;all 2;give;");
    CHECK.due("c has more now", 0, x.entrant(2, 2));
    CHECK.due("a is cut", 2, x.entrant(0, 2));
    CHECK.due("of the second round alone", 2 * 300, x.total(0, 0));
    CHECK.due("a ahead of b", 2, x.rank(0));
    CHECK.due("b by its total", 3, x.rank(1));
    CHECK.due("d", 4, x.rank(3));
  }

  private static void ties() {
    DropTwo x = meet("rounds 3 drop 0;" + FOUR + "cut 1 most 2;");
    Check.script(x, "all 7;give;all 5;give;all 5;give;all 4;give;");
    CHECK.due("as much as the last of these", 3, x.look(9));
    CHECK.due("of like ones the greater number first", 2, x.board(0));
    Check.script(x, "all 5;give;");
    CHECK.due("then b", 1, x.board(0));
    DropTwo y = meet("rounds 3 drop 0;" + FOUR + "cut 1 most 1;");
    Check.script(y, "all 0;give;all 0;give;all 0;give;fail;give;");
    CHECK.due("all are alike", 4, y.look(9));
    CHECK.due("the greatest number first", 3, y.board(0));
    DropTwo z = meet("rounds 3 drop 0;" + FOUR + "cut 1 most 1;");
    Check.script(z, "all 7;give;all 7;give;all 6;give;all 6;give;");
    CHECK.due("two have the most", 2, z.look(9));
    CHECK.due("b first", 1, z.board(0));
  }
}
