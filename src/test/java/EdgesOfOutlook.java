/** Promises 39 to 42: what a dive is worth, what one needs, swings, bribes. */
final class EdgesOfOutlook {
  private static final String BOTH = EdgesOfScripts.BOTH;

  private final Edges edges;

  EdgesOfOutlook(Edges edges) {
    this.edges = edges;
  }

  void all() {
    edges.says(39, "POINTS of the DIVE of a ROUND of an ENTRANT's LIST, if all AWARDS were alike"
        + " (as told; no CAP, BALK, FAILED halves).", this::worth);
    edges.says(39, "NONE for others.", this::worthOthers);
    edges.says(40, "The least AWARD, alike of all JUDGES, with which the first DIVE of an ENTRANT's LIST that was not given"
        + " makes its TOTAL greater than that of another one is now", this::needs);
    edges.says(40, "(as worth(), whatever stands at THE BOARD).", this::needsAtTheBoard);
    edges.says(40, "NONE: not with 20,", this::needsTooMuch);
    edges.says(40, "it is not IN, there is no such DIVE, others (also alike ones).", this::needsNone);
    edges.says(41, "Of a DIVE that was given by how much the most and the least POINTS are apart that it would have,"
        + " if one JUDGE had marked any AWARD.", this::swing);
    edges.says(41, "NONE: it was not given, it FAILED, it is none of its JUDGES, others.", this::swingNone);
    edges.says(42, "The fewest JUDGES of a DIVE that was given who, by other AWARDS, could have made its ENTRANT's TOTAL"
        + " greater than that of another one", this::bribes);
    edges.says(42, "(CUTS stay as they are):", this::bribesAndCuts);
    edges.says(42, "0: it is.", this::bribesOfNobody);
    edges.says(42, "-2: not all together.", this::bribesOfAll);
    edges.says(42, "NONE: it was not given, alike ones, others.", this::bribesNone);
  }

  /** Two divers with a like dive each: a half point of all judges is worth 300. */
  static String duel(int judges, int drop) {
    return "rounds 1 drop " + drop + ";" + "judge land 1;".repeat(judges)
        + "dive fa group 1 degree 20;diver ann land 1;diver bob land 2;list ann fa;list bob fa;";
  }

  private DropTwo duel(int judges, int drop, String acts) {
    DropTwo x = edges.meet(duel(judges, drop));
    edges.act(x, acts);
    return x;
  }

  private void worth() {
    DropTwo x = edges.meet(BOTH);
    edges.due("of 0", 0, x.worth(0, 1, 0));
    edges.due("of 1", 300, x.worth(0, 1, 1));
    edges.due("of 20", 20 * 450, x.worth(0, 2, 20));
    edges.due("of a pair", 7 * 375, x.worth(1, 2, 7));
    edges.act(x, "all 1;give;half first;half second;balk;cap 0;fail;");
    edges.due("whatever stands at the board", 7 * 450, x.worth(1, 1, 7));
    edges.due("of one that was given", 7 * 300, x.worth(0, 1, 7));
    edges.due("change", 1, x.change(0, 2, 2));
    edges.due("the list as it is now", 7 * 375, x.worth(0, 2, 7));
    edges.act(x, "out ann;");
    edges.due("of one who is out", 7 * 375, x.worth(0, 2, 7));
  }

  private void worthOthers() {
    DropTwo x = edges.meet(BOTH);
    edges.beyond("worth", 0, 1, -1, entrant -> x.worth(entrant, 1, 5));
    edges.beyond("worth's round", 1, 2, -1, round -> x.worth(0, round, 5));
    edges.beyond("worth's award", 0, 20, -1, award -> x.worth(0, 1, award));
  }

  private void needs() {
    DropTwo x = edges.meet(duel(3, 1));
    edges.due("more than 0", 1, x.needs(0, 1));
    edges.due("more than 0", 1, x.needs(1, 0));
    edges.act(x, "all 7;give;");
    edges.due("7 would be as much", 8, x.needs(1, 0));
    DropTwo y = duel(3, 1, "all 19;give;");
    edges.due("just with 20", 20, y.needs(1, 0));
    // The first dive not given, by its own degree: ba is worth 450.
    DropTwo z = edges.meet(BOTH);
    edges.act(z, "all 3;give;all 4;give;");
    edges.due("ann has 900, duo 1800: 2 would be as much", 3, z.needs(0, 1));
    edges.due("ahead already", 0, z.needs(1, 0));
    edges.due("change", 2, z.change(1, 2, 0));
    edges.act(z, "all 4;give;");
    edges.due("900 behind, by the list as it is now: 3 would be as much", 4, z.needs(1, 0));
    edges.act(z, "out duo;");
    edges.due("no dive is left", -1, z.needs(0, 1));
  }

  private void needsAtTheBoard() {
    DropTwo x = duel(3, 1, "all 7;give;all 0;cap 3;balk;");
    edges.due("whatever stands there", 8, x.needs(1, 0));
    edges.act(x, "fail;");
    edges.due("though it failed", 8, x.needs(1, 0));
  }

  private void needsTooMuch() {
    DropTwo x = duel(3, 1, "all 20;give;");
    edges.due("20 would be as much", -1, x.needs(1, 0));
    DropTwo y = edges.meet(BOTH);
    edges.act(y, "all 20;give;fail;give;all 20;give;");
    edges.due("6000 + 9000 ahead", -1, y.needs(1, 0));
  }

  private void needsNone() {
    DropTwo x = edges.meet(BOTH + "cut 1 most 1;");
    edges.due("alike ones", -1, x.needs(0, 0));
    edges.beyond("needs", 0, 1, -1, entrant -> x.needs(entrant, 1));
    edges.beyond("needs' other", 0, 1, -1, other -> x.needs(0, other));
    edges.act(x, "all 1;give;all 20;give;");
    edges.due("cut", -1, x.needs(0, 1));
    edges.due("of one who is cut", 0, x.needs(1, 0));
    edges.act(x, "fail;give;");
    edges.due("over: no such dive", -1, x.needs(1, 0));
    DropTwo y = edges.meet(BOTH);
    y.out(1);
    edges.due("withdrawn", -1, y.needs(1, 0));
    edges.due("of one who is withdrawn", 1, y.needs(0, 1));
  }

  private void swing() {
    // All five are kept: one of them moves the sum by 20.
    DropTwo x = duel(5, 0, "marks 3 4 5 6 7;give;");
    edges.due("all are kept", 20 * 300 / 5, x.swing(0, 1, 2));
    // One is kept: of 3 . 5 6 7 judge 1 makes it 5 or 6.
    DropTwo y = duel(5, 2, "marks 3 4 5 6 7;give;");
    edges.due("the middle one", 300, y.swing(0, 1, 1));
    edges.due("of 3 4 . 6 7: 4 to 6", 600, y.swing(0, 1, 2));
    edges.due("of . 4 5 6 7: 5 to 6", 300, y.swing(0, 1, 0));
    DropTwo alike = duel(3, 1, "all 9;give;");
    edges.due("like ones leave no room", 0, alike.swing(0, 1, 1));
    DropTwo alone = duel(1, 3, "all 9;give;");
    edges.due("alone", 20 * 300, alone.swing(0, 1, 0));
    // What stood at the board stands: a cap of 9 and a balk leave 0 .. 5.
    DropTwo capped = duel(1, 0, "cap 9;balk;all 3;give;");
    edges.due("by the cap and the balk", 5 * 300, capped.swing(0, 1, 0));
    edges.due("nothing changes", 0, duel(1, 0, "cap 0;all 3;give;").swing(0, 1, 0));
    DropTwo pair = edges.meet(BOTH);
    edges.act(pair, "fail;give;half first;all 9;give;");
    edges.due("of a half that failed", 0, pair.swing(1, 1, 1));
    edges.due("of the other half", 20 * 450 / 3, pair.swing(1, 1, 3));
    edges.due("of together", 4 * 450 / 3, pair.swing(1, 1, 4));
    // Each of most and least is cut: 20 * 150 / 7 = 428, 0.
    DropTwo cut = edges.meet(EdgesOfAwards.single(7, 0, 10));
    edges.act(cut, "all 0;give;");
    edges.due("cut", 428, cut.swing(0, 1, 6));
    edges.act(cut, "");
    edges.due("it stays as it was", 0, cut.points(0, 1));
  }

  private void swingNone() {
    DropTwo x = edges.meet(BOTH);
    edges.act(x, "all 5;give;fail;give;all 5;");
    edges.due("not given", -1, x.swing(0, 2, 0));
    edges.due("it failed", -1, x.swing(1, 1, 1));
    edges.due("none of its judges", -1, x.swing(0, 1, 1));
    edges.beyond("swing", 0, 1, -1, entrant -> x.swing(entrant, 1, 0));
    edges.beyond("swing's round", 1, 2, -1, round -> x.swing(0, round, 0));
    edges.beyond("swing's judge", 0, 4, -1, judge -> x.swing(0, 1, judge));
  }

  private void bribes() {
    // Five kept: the sum must be above bob's.
    edges.due("like totals", 1, duel(5, 0, "all 9;give;all 9;give;").bribes(0, 1, 1));
    edges.due("40 is not above 40", 3, duel(5, 0, "all 0;give;all 8;give;").bribes(0, 1, 1));
    edges.due("all five", 5, duel(5, 0, "all 0;give;all 19;give;").bribes(0, 1, 1));
    // The least of them give the most room: 19 19 19 19 0 to more than 95.
    edges.due("the one with 0", 1, duel(5, 0, "marks 19 19 19 19 0;give;all 19;give;").bribes(0, 1, 1));
    // One of three is kept: one alone moves nothing.
    edges.due("two of three", 2, duel(3, 1, "all 0;give;all 5;give;").bribes(0, 1, 1));
    edges.due("one of three: 4 to 6", 1, duel(3, 1, "marks 0 4 6;give;all 5;give;").bribes(0, 1, 1));
    // Points are cut: of seven 300 * 1 / 7 = 42 and 300 * 2 / 7 = 85.
    edges.due("of eleven", 11, duel(11, 0, "all 0;give;marks 20 20 20 20 20 20 20 20 20 20 19;give;").bribes(0, 1, 1));
    // Judge 0 has the most, so that others are worth more.
    edges.due("two of 5 0 0", 2, duel(3, 0, "marks 5 0 0;give;all 10;give;").bribes(0, 1, 1));
    bribesOfPairs();
    // Sorts together: 0 of first counts, 4 at most of together; so those of second.
    DropTwo pair = edges.meet(BOTH);
    edges.act(pair, "all 12;give;half first;marks 9 8 4;give;");
    // duo (0 + 8 + 4) * 150 = 1800, ann 3600: second at 20 makes just as much.
    edges.due("not more than ann's", -2, pair.bribes(1, 1, 0));
    DropTwo less = edges.meet(BOTH);
    edges.act(less, "marks 12 11;give;half first;marks 9 8 4;give;");
    edges.due("one of second", 1, less.bribes(1, 1, 0));
  }

  /** One of first, two of second, three of together: 20 of all makes 6000, 20 of one of them 1000. */
  private int bribesOfPair(int drop, int most, String acts) {
    DropTwo x = edges.meet("rounds 1 drop " + drop + ";judge land 1 together;judge land 1 second;"
        + "judge land 1 together;judge land 1;judge land 1 first;judge land 1 together;judge land 1 second;"
        + "dive fa group 1 degree 20;diver ann land 1;pair duo land 1;list ann fa;list duo fa;");
    edges.act(x, "all " + most + ";give;" + acts + "give;");
    return x.bribes(1, 1, 0);
  }

  private void bribesOfPairs() {
    // Together 0 0 0, the others 20: 3000, 4000, 5000, 6000.
    int[][] due = {{9, 0}, {10, 1}, {13, 1}, {14, 2}, {16, 2}, {17, 3}, {19, 3}, {20, -2}};
    for (int[] row : due) {
      edges.due("of together to more than " + row[0], row[1], bribesOfPair(0, row[0], "marks 0 20 0 20 0 20;"));
    }
    // Second 0 0: 4000, 5000, 6000. First 0: 5000, 6000.
    edges.due("one of second", 1, bribesOfPair(0, 16, "marks 20 0 20 20 20 0;"));
    edges.due("both of second", 2, bribesOfPair(0, 17, "marks 20 0 20 20 20 0;"));
    edges.due("the one of first", 1, bribesOfPair(0, 19, "marks 20 20 20 0 20 20;"));
    // One of each: 3000, then by any of them.
    edges.due("two of any", 2, bribesOfPair(0, 16, "marks 0 20 20 0 20 0;"));
    edges.due("one of each", 3, bribesOfPair(0, 17, "marks 0 20 20 0 20 0;"));
    edges.due("all six", 6, bribesOfPair(0, 19, "all 0;"));
    edges.due("five of six", 5, bribesOfPair(0, 16, "all 0;"));
    // The middle one of together alone is kept: two of them move it, one does not.
    edges.due("two of together", 2, bribesOfPair(3, 19, "marks 0 20 0 20 0 20;"));
    edges.due("one of together: 0 0 20", 1, bribesOfPair(3, 19, "marks 0 20 20 20 0 20;"));
    // 0 of first counts, 4 at most of together: 20 20 of second alone move it, up to 2600.
    edges.due("one of second", 1, bribesOfPair(0, 8, "half first;marks 4 0 4 0 4 20;"));
    edges.due("not all together", -2, bribesOfPair(0, 9, "half first;marks 4 0 4 0 4 20;"));
  }

  private void bribesAndCuts() {
    // ann is cut with 1500; bob has 1800 and goes on, or begins anew.
    String two = "rounds 2 drop 0;judge land 1;dive fa group 1 degree 20;dive ba group 1 degree 20;"
        + "diver ann land 1;diver bob land 2;list ann fa ba;list bob fa ba;";
    DropTwo x = edges.meet(two + "cut 1 most 1;");
    edges.act(x, "all 5;give;all 6;give;");
    edges.due("ann is cut", 1, x.entrant(0, 2));
    edges.due("by totals as they are now", 1, x.bribes(0, 1, 1));
    edges.act(x, "all 20;give;");
    edges.due("7800 can't be beaten by one dive", -2, x.bribes(0, 1, 1));
    DropTwo y = edges.meet(two + "cut 1 most 1 anew;");
    edges.act(y, "all 5;give;all 6;give;");
    edges.due("bob is at 0 then", 0, y.bribes(0, 1, 1));
    edges.due("his dive is none of his total", -2, y.bribes(1, 1, 0));
    edges.act(y, "all 5;give;");
    edges.due("his second one is", 1, y.bribes(1, 2, 0));
  }

  private void bribesOfNobody() {
    edges.due("it is greater", 0, duel(5, 0, "all 9;give;all 8;give;").bribes(0, 1, 1));
    edges.due("nothing was given of the other", 0, duel(5, 0, "all 1;give;").bribes(0, 1, 1));
    edges.due("like ones are not greater", 1, duel(5, 0, "all 0;give;").bribes(0, 1, 1));
  }

  private void bribesOfAll() {
    edges.due("20 of all is as much", -2, duel(5, 0, "all 0;give;all 20;give;").bribes(0, 1, 1));
    edges.due("20 of all already", -2, duel(5, 0, "all 20;give;all 20;give;").bribes(0, 1, 1));
    edges.due("a cap of 9 stands", -2, duel(5, 0, "cap 9;all 9;give;all 9;give;").bribes(0, 1, 1));
    edges.due("a balk stands", -2, duel(5, 0, "balk;all 9;give;all 16;give;").bribes(0, 1, 1));
    edges.due("16 is more than 15", 5, duel(5, 0, "balk;all 4;give;all 15;give;").bribes(0, 1, 1));
  }

  private void bribesNone() {
    DropTwo x = edges.meet(BOTH);
    edges.due("not given", -1, x.bribes(0, 1, 1));
    edges.act(x, "all 5;give;all 9;");
    edges.due("marked, not given", -1, x.bribes(1, 1, 0));
    edges.due("alike ones", -1, x.bribes(0, 1, 0));
    edges.beyond("bribes", 0, 1, -1, entrant -> x.bribes(entrant, 1, 1));
    edges.beyond("bribes' round", 1, 2, -1, round -> x.bribes(0, round, 1));
    edges.beyond("bribes' other", 0, 1, -1, other -> x.bribes(0, 1, other));
  }
}
