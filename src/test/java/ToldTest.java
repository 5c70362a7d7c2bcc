/** Promises 9 to 15: what is told, read back. */
public final class ToldTest {
  private static final Check CHECK = new Check("told");
  private static final String MEET =
      "rounds 3 drop 2;judge land 7;judge land 0 first;judge land 1 second;judge land 2 together;"
          + "dive fa group 1 degree 10;dive ba group 6 degree 60;dive re group 3 degree 25;"
          + "dive tw group 3 degree 31;diver ann land 0;pair duo land 7;"
          + "list ann fa ba re;list duo tw re ba;form duo 0 1 2 3 4 20;"
          + "law seen<3;cut 1 most 5;cut 2 most 1 anew;";

  public static void main(String[] args) {
    DropTwo x = new DropTwo();
    CHECK.due("meet", 17, Check.meet(x, MEET));
    looking(x);
    telling(x);
    lists(x);
    cuts(x);
    course(x);
    CHECK.finish();
  }

  private static void looking(DropTwo x) {
    int[] due = {3, 2, 4, 4, 2, 1, 2, 0, 0, 2, 0};
    for (int what = 0; what < due.length; what++) {
      CHECK.due("look(" + what + ")", due[what], x.look(what));
    }
    CHECK.due("look(11)", -1, x.look(11));
    CHECK.due("look(-1)", -1, x.look(-1));
    CHECK.due("look(max)", -1, x.look(Integer.MAX_VALUE));
    x.feed(0, 0, 0, 0, 0);
    CHECK.due("look(10)", 20, x.look(10));
    x.end(0);
  }

  private static void telling(DropTwo x) {
    CHECK.due("dive(0, 0)", 1, x.dive(0, 0));
    CHECK.due("dive(0, 1)", 10, x.dive(0, 1));
    CHECK.due("dive(1, 0)", 6, x.dive(1, 0));
    CHECK.due("dive(1, 1)", 60, x.dive(1, 1));
    CHECK.due("dive(3, 1)", 31, x.dive(3, 1));
    CHECK.due("dive(4, 0)", -1, x.dive(4, 0));
    CHECK.due("dive(-1, 0)", -1, x.dive(-1, 0));
    CHECK.due("dive(0, 2)", -1, x.dive(0, 2));
    CHECK.due("dive(0, -1)", -1, x.dive(0, -1));
    CHECK.due("judge(0, 0)", 7, x.judge(0, 0));
    for (int sort = 0; sort <= 3; sort++) {
      CHECK.due("judge(" + sort + ", 1)", sort, x.judge(sort, 1));
    }
    CHECK.due("judge(4, 1)", -1, x.judge(4, 1));
    CHECK.due("judge(-1, 1)", -1, x.judge(-1, 1));
    CHECK.due("judge(0, 2)", -1, x.judge(0, 2));
    CHECK.due("entrant(0, 0)", 0, x.entrant(0, 0));
    CHECK.due("entrant(1, 0)", 1, x.entrant(1, 0));
    CHECK.due("entrant(0, 1)", 0, x.entrant(0, 1));
    CHECK.due("entrant(1, 1)", 7, x.entrant(1, 1));
    CHECK.due("entrant(0, 2)", 0, x.entrant(0, 2));
    CHECK.due("entrant(0, 3)", 0, x.entrant(0, 3));
    CHECK.due("entrant(0, 4)", -1, x.entrant(0, 4));
    CHECK.due("entrant(0, -1)", -1, x.entrant(0, -1));
    CHECK.due("entrant(2, 0)", -1, x.entrant(2, 0));
    CHECK.due("entrant(-1, 0)", -1, x.entrant(-1, 0));
  }

  private static void lists(DropTwo x) {
    int[] duo = {3, 2, 1};
    for (int round = 1; round <= 3; round++) {
      CHECK.due("list(0, " + round + ")", round == 3 ? 2 : round - 1, x.list(0, round));
      CHECK.due("list(1, " + round + ")", duo[round - 1], x.list(1, round));
    }
    CHECK.due("list(0, 0)", -1, x.list(0, 0));
    CHECK.due("list(0, 4)", -1, x.list(0, 4));
    CHECK.due("list(2, 1)", -1, x.list(2, 1));
    CHECK.due("list(-1, 1)", -1, x.list(-1, 1));
    int[] form = {0, 1, 2, 3, 4, 20};
    for (int group = 1; group <= 6; group++) {
      CHECK.due("form(0, " + group + ")", 10, x.form(0, group));
      CHECK.due("form(1, " + group + ")", form[group - 1], x.form(1, group));
    }
    CHECK.due("form(0, 0)", -1, x.form(0, 0));
    CHECK.due("form(0, 7)", -1, x.form(0, 7));
    CHECK.due("form(2, 1)", -1, x.form(2, 1));
    CHECK.due("form(-1, 1)", -1, x.form(-1, 1));
  }

  private static void cuts(DropTwo x) {
    int[][] due = {{1, 5, 0}, {2, 1, 1}};
    for (int cut = 0; cut < 2; cut++) {
      for (int what = 0; what < 3; what++) {
        CHECK.due("cut(" + cut + ", " + what + ")", due[cut][what], x.cut(cut, what));
      }
    }
    CHECK.due("cut(2, 0)", -1, x.cut(2, 0));
    CHECK.due("cut(-1, 0)", -1, x.cut(-1, 0));
    CHECK.due("cut(0, 3)", -1, x.cut(0, 3));
    CHECK.due("cut(0, -1)", -1, x.cut(0, -1));
  }

  /** What look() and entrant() tell as the meet goes on. */
  private static void course(DropTwo x) {
    CHECK.due("round 1", 4, Check.script(x, "all 10;give;all 5;give;"));
    CHECK.due("given", 1, x.entrant(0, 3));
    CHECK.due("all went on", 2, x.look(9));
    // fa: 10 * 15 * 10 = 1500; tw: 5 * 15 * 31 = 2325, so ann is first again and has 1500 + 0.
    CHECK.due("round 2", 4, Check.script(x, "fail;give;all 1;give;"));
    CHECK.due("ann is cut", 2, x.entrant(0, 2));
    CHECK.due("duo is in", 0, x.entrant(1, 2));
    CHECK.due("one is in", 1, x.look(9));
    CHECK.due("acts", 2, x.look(7));
    CHECK.due("not over", 0, x.look(8));
    CHECK.due("out", 0, x.out(1));
    CHECK.due("withdrawn", 7, x.entrant(1, 2));
    CHECK.due("given", 2, x.entrant(1, 3));
    CHECK.due("none is in", 0, x.look(9));
    CHECK.due("over", 1, x.look(8));
  }
}
