/** Promises 32 to 38: points, totals, ranks, the sheet. */
public final class PointsTest {
  private static final Check CHECK = new Check("points");

  public static void main(String[] args) {
    trimming();
    counting();
    halves();
    panels();
    readingWrongly();
    totalsAndRanks();
    sheets();
    CHECK.finish();
  }

  private static DropTwo meet(String text) {
    DropTwo x = new DropTwo();
    CHECK.isTrue("meet " + text, Check.meet(x, text) > 0);
    return x;
  }

  private static DropTwo single(int judges, int drop, int degree) {
    return meet("rounds 1 drop " + drop + ";" + "judge land 1;".repeat(judges)
        + "dive fa group 1 degree " + degree + ";diver ann land 1;list ann fa;");
  }

  private static void trimming() {
    DropTwo x = single(7, 2, 23);
    CHECK.due("not given", -1, x.points(0, 1));
    CHECK.due("not given", -1, x.kept(0, 1));
    CHECK.due("not given", -1, x.award(0, 1, 0, 0));
    Check.script(x, "marks 10 12 12 9 15 12 8;");
    CHECK.due("not given yet", -1, x.award(0, 1, 0, 0));
    x.give();
    // 8 9 | 10 12 12 | 12 15: of like ones by numbers, so judge 5 is among the last.
    CHECK.due("points", 34 * 15 * 23 / 3, x.points(0, 1));
    CHECK.due("kept", 1 + 2 + 4, x.kept(0, 1));
    int[] awards = {10, 12, 12, 9, 15, 12, 8};
    for (int judge = 0; judge < 7; judge++) {
      CHECK.due("award of " + judge, awards[judge], x.award(0, 1, judge, 0));
      CHECK.due("count of " + judge, awards[judge], x.award(0, 1, judge, 1));
      CHECK.due("kept " + judge, judge < 3 ? 1 : 0, x.award(0, 1, judge, 2));
    }
    // No more than (how many, less 1) by 2 are dropped at each end.
    int[] keeps = {0, 1, 2, 1, 2, 1, 2, 1, 2, 3, 4, 5};
    for (int judges = 1; judges <= 11; judges++) {
      DropTwo y = single(judges, 3, 20);
      Check.script(y, "all 7;give;");
      CHECK.due("kept of " + judges, keeps[judges], Integer.bitCount(y.kept(0, 1)));
      CHECK.due("points of " + judges, 2100, y.points(0, 1));
    }
    DropTwo z = single(4, 0, 21);
    Check.script(z, "marks 8 8 8 9;give;");
    CHECK.due("cut", 2598, z.points(0, 1));
    CHECK.due("all are kept", 15, z.kept(0, 1));
    DropTwo most = single(11, 0, 60);
    Check.script(most, "all 20;give;");
    CHECK.due("the most", 18000, most.points(0, 1));
  }

  private static void counting() {
    DropTwo x = single(3, 1, 20);
    Check.script(x, "cap 9;balk;marks 20 3 9;give;");
    // 9, 3, 9 by the cap; 5, 0, 5 by the balk: judge 0 is the middle one.
    CHECK.due("award", 20, x.award(0, 1, 0, 0));
    CHECK.due("count", 5, x.award(0, 1, 0, 1));
    CHECK.due("count", 0, x.award(0, 1, 1, 1));
    CHECK.due("count", 5, x.award(0, 1, 2, 1));
    CHECK.due("kept", 1, x.kept(0, 1));
    CHECK.due("points", 5 * 15 * 20, x.points(0, 1));
    DropTwo y = single(3, 1, 20);
    Check.script(y, "marks 20 3 9;cap 10;give;");
    CHECK.due("the cap counts whenever it comes", 4, y.kept(0, 1));
    CHECK.due("points", 9 * 15 * 20, y.points(0, 1));
    CHECK.due("count", 10, y.award(0, 1, 0, 1));
    DropTwo z = single(3, 1, 20);
    Check.script(z, "fail;give;");
    CHECK.due("points", 0, z.points(0, 1));
    CHECK.due("kept", 0, z.kept(0, 1));
    CHECK.due("award", -1, z.award(0, 1, 0, 0));
  }

  private static final String PAIRS =
      "rounds 1 drop 1;judge land 0 first;judge land 0 together;judge land 0 first;"
          + "judge land 0 second;judge land 0;judge land 0 second;judge land 0 second;"
          + "judge land 0 together;dive fa group 1 degree 20;pair duo land 0;list duo fa;";

  /** Marks of a pair, by judges 0, 1, 2, 3, 5, 6, 7 (4 is of divers). */
  private static DropTwo pair(String acts) {
    DropTwo x = meet(PAIRS);
    CHECK.due("panel", 7, x.board(4));
    CHECK.isTrue(acts, Check.script(x, "marks 10 11 12 13 14 15 16;" + acts) > 0);
    return x;
  }

  private static void halves() {
    // Of second 13 and 15 are dropped; of the others (two of each) none.
    DropTwo x = pair("give;");
    CHECK.due("kept", 1 + 2 + 4 + 32 + 128, x.kept(0, 1));
    CHECK.due("points", (10 + 12 + 14 + 11 + 16) * 15 * 20 / 5, x.points(0, 1));
    DropTwo first = pair("half first;give;");
    CHECK.due("first", 0, first.award(0, 1, 0, 1));
    CHECK.due("second", 14, first.award(0, 1, 5, 1));
    CHECK.due("together", 4, first.award(0, 1, 7, 1));
    CHECK.due("points", (14 + 4 + 4) * 15 * 20 / 5, first.points(0, 1));
    DropTwo second = pair("half second;give;");
    // All of second count 0, so that judge 5 is the middle one still.
    CHECK.due("kept", 1 + 2 + 4 + 32 + 128, second.kept(0, 1));
    CHECK.due("points", (10 + 12 + 4 + 4) * 15 * 20 / 5, second.points(0, 1));
    DropTwo both = pair("half second;half first;cap 3;give;");
    CHECK.due("together by the cap", 3, both.award(0, 1, 1, 1));
    CHECK.due("points", 6 * 15 * 20 / 5, both.points(0, 1));
    DropTwo balk = pair("half second;balk;give;");
    CHECK.due("together less 4", 0, balk.award(0, 1, 1, 1));
    CHECK.due("first less 4", 6, balk.award(0, 1, 0, 1));
    CHECK.due("points", (6 + 8) * 15 * 20 / 5, balk.points(0, 1));
    CHECK.due("none of its judges", -1, x.award(0, 1, 4, 0));
  }

  private static void panels() {
    DropTwo x = meet("rounds 1 drop 0;judge land 0 first;judge land 0;judge land 0 second;"
        + "judge land 0 together;dive fa group 1 degree 20;diver ann land 0;pair duo land 0;"
        + "list ann fa;list duo fa;");
    CHECK.due("one judge", 1, x.board(4));
    Check.script(x, "marks 9;give;marks 1 2 3;give;");
    CHECK.due("of a diver", 2, x.kept(0, 1));
    CHECK.due("of a pair", 1 + 4 + 8, x.kept(1, 1));
    CHECK.due("points", 6 * 15 * 20 / 3, x.points(1, 1));
    CHECK.due("none of its judges", -1, x.award(0, 1, 0, 0));
    CHECK.due("none of its judges", -1, x.award(1, 1, 1, 0));
  }

  private static void readingWrongly() {
    DropTwo x = single(3, 1, 20);
    Check.script(x, "all 9;give;");
    CHECK.due("no such round", -1, x.points(0, 2));
    CHECK.due("no such round", -1, x.points(0, 0));
    CHECK.due("no such entrant", -1, x.points(1, 1));
    CHECK.due("no such entrant", -1, x.points(-1, 1));
    CHECK.due("no such round", -1, x.kept(0, 2));
    CHECK.due("no such entrant", -1, x.kept(1, 1));
    CHECK.due("no such judge", -1, x.award(0, 1, 3, 0));
    CHECK.due("no such judge", -1, x.award(0, 1, -1, 0));
    CHECK.due("no such what", -1, x.award(0, 1, 0, 3));
    CHECK.due("no such what", -1, x.award(0, 1, 0, -1));
    CHECK.due("no such round", -1, x.award(0, 2, 0, 0));
    CHECK.due("no such entrant", -1, x.award(2, 1, 0, 0));
    CHECK.due("no such entrant", -1, x.total(1, 0));
    CHECK.due("no such what", -1, x.total(0, 2));
    CHECK.due("no such what", -1, x.total(0, -1));
    CHECK.due("no such entrant", -1, x.rank(1));
    CHECK.due("no such entrant", -1, x.rank(-1));
    CHECK.due("no such place", -1, x.at(1));
    CHECK.due("no such place", -1, x.at(-1));
  }

  private static final String FOUR =
      "judge land 1;dive fa group 1 degree 20;dive ba group 2 degree 47;dive re group 3 degree 20;"
          + "diver ann land 1;diver bob land 1;diver cy land 1;diver d land 1;"
          + "list ann fa ba re;list bob fa ba re;list cy fa ba re;list d fa ba re;";

  private static void totalsAndRanks() {
    DropTwo x = meet("rounds 3 drop 0;" + FOUR + "cut 1 most 3;cut 2 most 1 anew;");
    for (int i = 0; i < 4; i++) {
      CHECK.due("all are alike", 1, x.rank(i));
      CHECK.due("by numbers", i, x.at(i));
    }
    Check.script(x, "all 5;give;all 6;give;all 5;give;all 4;give;");
    CHECK.due("d is cut", 4, x.rank(3));
    CHECK.due("bob", 1, x.rank(1));
    CHECK.due("ann", 2, x.rank(0));
    CHECK.due("cy", 2, x.rank(2));
    CHECK.due("at(0)", 1, x.at(0));
    CHECK.due("at(1)", 0, x.at(1));
    CHECK.due("at(2)", 2, x.at(2));
    CHECK.due("at(3)", 3, x.at(3));
    // cy, ann, bob by totals; ba is worth 705 for each half point.
    Check.script(x, "all 1;give;all 20;give;out bob;");
    CHECK.due("ann goes on", 0, x.entrant(0, 2));
    CHECK.due("cy is cut", 2, x.entrant(2, 2));
    CHECK.due("ann begins anew", 0, x.total(0, 0));
    CHECK.due("ann has it all", 1500 + 14100, x.total(0, 1));
    CHECK.due("cy", 1500 + 705, x.total(2, 0));
    CHECK.due("bob", 1800, x.total(1, 0));
    CHECK.due("in is ahead of cut", 1, x.rank(0));
    CHECK.due("cut later", 2, x.rank(2));
    CHECK.due("cut earlier", 3, x.rank(3));
    CHECK.due("withdrawn", 4, x.rank(1));
    Check.script(x, "all 2;give;");
    CHECK.due("over", 1, x.look(8));
    CHECK.due("ann", 600, x.total(0, 0));
    CHECK.due("ann", 1500 + 14100 + 600, x.total(0, 1));
  }

  private static void sheet(DropTwo x, String due) {
    CHECK.due("sheet(-1)", due.length(), x.sheet(-1));
    CHECK.isTrue("sheet " + Check.sheet(x), Check.sheet(x).equals(due));
    CHECK.due("behind it", -1, x.sheet(due.length()));
    CHECK.due("ahead of it", -1, x.sheet(-2));
    CHECK.due("far off", -1, x.sheet(Integer.MAX_VALUE));
  }

  private static void sheets() {
    DropTwo x = meet("rounds 3 drop 0;" + FOUR + "cut 1 most 3;");
    sheet(x, "1 ann 0.00;1 bob 0.00;1 cy 0.00;1 d 0.00;");
    CHECK.due("sheet(0)", '1', x.sheet(0));
    CHECK.due("sheet(1)", ' ', x.sheet(1));
    Check.script(x, "all 5;give;all 6;give;all 5;give;all 4;give;");
    sheet(x, "1 bob 18.00;2 ann 15.00;2 cy 15.00;4 d 12.00;");
    Check.script(x, "all 1;give;");
    sheet(x, "1 cy 22.05;2 bob 18.00;3 ann 15.00;4 d 12.00;");
    DropTwo y = meet("rounds 1 drop 0;judge land 1;dive fa group 1 degree 47;pair longest land 1;"
        + "judge land 1 first;judge land 1 second;judge land 1 together;list longest fa;");
    Check.script(y, "all 1;give;");
    sheet(y, "1 longest 7.05;");
    DropTwo z = meet("rounds 6 drop 0;judge land 1;diver z land 1;dive a group 1 degree 60;"
        + "dive b group 1 degree 60;dive c group 1 degree 60;dive d group 1 degree 60;"
        + "dive e group 1 degree 60;dive f group 1 degree 60;list z a b c d e f;");
    Check.script(z, "all 20;give;".repeat(6));
    sheet(z, "1 z 1080.00;");
  }
}
