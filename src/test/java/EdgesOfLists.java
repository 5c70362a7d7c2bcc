/** Promises 16 to 20: lists and laws. */
final class EdgesOfLists {
  /** Four dives for two rounds: groups 1 2 1 3, degrees 20 30 25 40. */
  private static final String DIVES =
      "rounds 2 drop 0;judge land 1;judge land 1 first;judge land 1 second;judge land 1 together;"
          + "dive a group 1 degree 20;dive b group 2 degree 30;dive c group 1 degree 25;"
          + "dive d group 3 degree 40;diver ann land 1;pair duo land 1;list ann a c;list duo d b;";

  private final Edges edges;

  EdgesOfLists(Edges edges) {
    this.edges = edges;
  }

  void all() {
    edges.says(16, "Whether a LAW is so (1, 0) in a ROUND of an ENTRANT's LIST.", this::laws);
    edges.says(16, "NONE for others.", this::lawOthers);
    edges.says(17, "What 0 the first ROUND of an ENTRANT's LIST in which a LAW is not so (0: it OBEYS),", this::breakRounds);
    edges.says(17, "1 the first such LAW in it (NONE: it OBEYS).", this::breakLaws);
    edges.says(17, "NONE for others.", this::breakOthers);
    edges.says(18, "How many rows of unlike DIVES, as long as there are ROUNDS, would OBEY as an ENTRANT's LIST.",
        this::ways);
    edges.says(18, "NONE for others.", this::waysOthers);
    edges.says(19, "The DIVE of a ROUND in the k-th of these rows (from 0 on; rows in order by their first DIVE,"
        + " then the next one, ..).", this::way);
    edges.says(19, "NONE: there are no so many, others.", this::wayOthers);
    edges.says(20, "Of these rows that with the most POINTS BY FORM together,", this::best);
    edges.says(20, "the first such:", this::firstBest);
    edges.says(20, "what 0 these POINTS, 1 .. its DIVE of that ROUND.", this::bestWhats);
    edges.says(20, "NONE: there is no such row, others.", this::bestNone);
  }

  private DropTwo meet(String behind) {
    return edges.meet(DIVES + behind);
  }

  private void laws() {
    DropTwo x = meet("law seen=1;law pair=1 or degree<25;");
    int[][][] due = {{{1, 0}, {1, 1}}, {{1, 0}, {1, 1}}};
    for (int law = 0; law < 2; law++) {
      for (int entrant = 0; entrant < 2; entrant++) {
        for (int round = 1; round <= 2; round++) {
          edges.due("law(" + law + ", " + entrant + ", " + round + ")", due[law][entrant][round - 1],
              x.law(law, entrant, round));
        }
      }
    }
    DropTwo y = meet("law seen=1;");
    edges.due("change", 2, y.change(0, 2, 1));
    edges.due("the list as it is now", 1, y.law(0, 0, 2));
  }

  private void lawOthers() {
    DropTwo x = meet("law seen=1;law 1=1;");
    edges.beyond("law", 0, 1, -1, law -> x.law(law, 0, 1));
    edges.beyond("law's entrant", 0, 1, -1, entrant -> x.law(0, entrant, 1));
    edges.beyond("law's round", 1, 2, -1, round -> x.law(0, 0, round));
    edges.due("without laws", -1, meet("").law(0, 0, 1));
  }

  private void breakRounds() {
    edges.due("it obeys", 0, meet("law 1=1;").breaks(0, 0));
    edges.due("no laws", 0, meet("").breaks(0, 0));
    edges.due("the first round", 1, meet("law 1=2;").breaks(0, 0));
    edges.due("the last round", 2, meet("law seen=1;").breaks(0, 0));
    edges.due("the first of both", 1, meet("law seen=1;law round=2;").breaks(0, 0));
    edges.due("of a pair", 0, meet("law seen=1;").breaks(1, 0));
  }

  private void breakLaws() {
    edges.due("it obeys", -1, meet("law 1=1;").breaks(0, 1));
    edges.due("no laws", -1, meet("").breaks(0, 1));
    edges.due("the first of both", 0, meet("law 1=2;law 1=2;").breaks(0, 1));
    edges.due("the second one, in an earlier round", 1, meet("law seen=1;law round=2;").breaks(0, 1));
    edges.due("the last one", 5, meet("law 1=1;".repeat(5) + "law seen=1;").breaks(0, 1));
  }

  private void breakOthers() {
    DropTwo x = meet("law seen=1;");
    edges.beyond("breaks", 0, 1, -1, entrant -> x.breaks(entrant, 0));
    edges.beyond("breaks", 0, 1, -1, entrant -> x.breaks(entrant, 1));
    edges.beyond("breaks' what", 0, 1, -1, what -> x.breaks(0, what));
    edges.beyond("breaks' what", 0, 1, -1, what -> x.breaks(1, what));
  }

  private void ways() {
    edges.due("all rows", 12, meet("").ways(0));
    edges.due("no row", 0, meet("law 1=2;").ways(0));
    edges.due("without like groups", 10, meet("law seen=1;").ways(0));
    edges.due("of a diver", 2, meet("law pair=1 or sum<51 and round=2 or round=1 and degree=20;").ways(0));
    edges.due("of a pair", 12, meet("law pair=1 or degree=0;").ways(1));
    edges.due("one row", 1, meet("law degree=20 or round=2 and degree=40;").ways(0));
    edges.due("that breaks in its last round alone", 0, meet("law round=1;").ways(0));
    DropTwo full = edges.meet(ten(6));
    edges.due("ten dives, six rounds", 151200, full.ways(0));
    edges.due("ten dives, one round", 10, edges.meet(ten(1)).ways(0));
    edges.due("as many dives as rounds", 720, edges.meet(EdgesOfMeets.rounds(6, 0, "")).ways(0));
    DropTwo x = meet("law seen=1;");
    edges.act(x, "all 5;give;");
    edges.due("whatever was given", 10, x.ways(0));
    edges.act(x, "out ann;");
    edges.due("of one who is out, too", 10, x.ways(0));
  }

  private static String ten(int rounds) {
    StringBuilder text = new StringBuilder("rounds " + rounds + " drop 0;judge land 1;diver ann land 1;");
    for (char name = 'a'; name < 'a' + 10; name++) {
      text.append("dive ").append(name).append(" group 1 degree 20;");
    }
    return text + "list ann a b c d e f".substring(0, 8 + 2 * rounds) + ";";
  }

  private void waysOthers() {
    DropTwo x = meet("");
    edges.beyond("ways", 0, 1, -1, x::ways);
  }

  private void way() {
    int[][] rows = {{0, 1}, {0, 3}, {1, 0}, {1, 2}, {1, 3}, {2, 1}, {2, 3}, {3, 0}, {3, 1}, {3, 2}};
    DropTwo x = meet("law seen=1;");
    for (int k = 0; k < 10; k++) {
      edges.due("way(0, " + k + ", 1)", rows[k][0], x.way(0, k, 1));
      edges.due("way(0, " + k + ", 2)", rows[k][1], x.way(0, k, 2));
      edges.due("way(1, " + k + ", 1)", rows[k][0], x.way(1, k, 1));
    }
    DropTwo full = edges.meet(ten(6));
    int[] last = {9, 8, 7, 6, 5, 4};
    for (int round = 1; round <= 6; round++) {
      edges.due("the first row", round - 1, full.way(0, 0, round));
      edges.due("the last row", last[round - 1], full.way(0, 151199, round));
    }
  }

  private void wayOthers() {
    DropTwo x = meet("law seen=1;");
    edges.beyond("way", 0, 1, -1, entrant -> x.way(entrant, 0, 1));
    edges.beyond("way's k", 0, 9, -1, k -> x.way(0, k, 1));
    edges.beyond("way's round", 1, 2, -1, round -> x.way(0, 0, round));
    DropTwo none = meet("law 1=2;");
    edges.due("no row", -1, none.way(0, 0, 1));
    DropTwo full = edges.meet(ten(6));
    edges.due("behind the last one", -1, full.way(0, 151200, 1));
  }

  private void best() {
    // By form a 10 * 300 = 3000, b 8 * 450 = 3600, c 9 * 375 = 3375, d 6 * 600 = 3600.
    edges.due("b and d", 7200, meet("").best(0, 0));
    edges.due("by the law a and c", 6375, meet("law group=1;").best(0, 0));
    edges.due("form told", 20 * 300 + 19 * 375, meet("form ann 20 0 0 0 0 0;").best(0, 0));
    edges.due("of the other", 7200, meet("form ann 20 0 0 0 0 0;").best(1, 0));
    edges.due("of 0 all together", 0, meet("form ann 0 0 0 0 0 0;law degree>24;").best(0, 0));
    DropTwo x = meet("");
    edges.act(x, "all 20;give;");
    edges.due("whatever was given", 7200, x.best(0, 0));
  }

  private void firstBest() {
    DropTwo x = meet("");
    edges.due("b d ahead of d b", 1, x.best(0, 1));
    edges.due("b d ahead of d b", 3, x.best(0, 2));
    DropTwo zero = meet("form ann 0 0 0 0 0 0;law degree>24;");
    edges.due("all have 0", 1, zero.best(0, 1));
    edges.due("all have 0", 2, zero.best(0, 2));
    DropTwo law = meet("law not group=2 or round=2;");
    edges.due("d b by the law", 3, law.best(0, 1));
    edges.due("d b by the law", 1, law.best(0, 2));
  }

  private void bestWhats() {
    DropTwo x = edges.meet(ten(6));
    edges.due("points", 6 * 10 * 300, x.best(0, 0));
    for (int round = 1; round <= 6; round++) {
      edges.due("best(0, " + round + ")", round - 1, x.best(0, round));
    }
  }

  private void bestNone() {
    DropTwo none = meet("law round=1;");
    for (int what = 0; what <= 2; what++) {
      edges.due("no such row", -1, none.best(0, what));
    }
    DropTwo x = meet("");
    edges.beyond("best", 0, 1, -1, entrant -> x.best(entrant, 0));
    edges.beyond("best", 0, 1, -1, entrant -> x.best(entrant, 1));
    edges.beyond("best's what", 0, 2, -1, what -> x.best(0, what));
  }
}
