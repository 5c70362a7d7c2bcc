/** Terms ==== 2: awards, what counts of them, who is kept, points, by form. */
final class EdgesOfAwards {
  /** A pair with two judges of each sort; judge 6 is of divers. */
  private static final String PAIR =
      "rounds 1 drop 0;judge land 1 first;judge land 1 first;judge land 1 second;judge land 1 second;"
          + "judge land 1 together;judge land 1 together;judge land 1;dive fa group 1 degree 20;"
          + "pair duo land 1;list duo fa;";

  private final Edges edges;

  EdgesOfAwards(Edges edges) {
    this.edges = edges;
  }

  void all() {
    edges.says(0, "AWARDS are halves of points, 0 .. 20.", this::awards);
    edges.says(0, "A DIVE of a diver is judged by all JUDGES of SORT 0, of a pair by all of SORTS 1, 2, 3.", this::panels);
    edges.says(0, "What COUNTS of an AWARD: it, CAP at most (20 without);", this::caps);
    edges.says(0, "then of SORT 1 0, if the first half FAILED,", this::firstHalf);
    edges.says(0, "of SORT 2 0, if the second did,", this::secondHalf);
    edges.says(0, "of SORT 3 4 at most, if one of them did;", this::together);
    edges.says(0, "then 4 less, if there was a BALK (0 at least).", this::balks);
    edges.says(0, "Of each SORT for itself JUDGES are put in order by what COUNTS,", this::inOrder);
    edges.says(0, "of like ones by numbers:", this::likeOnes);
    edges.says(0, "the first d and the last d of these are DROPPED, d as DROP,", this::dropped);
    edges.says(0, "but no more than (how many they are, less 1) by 2, cut;", this::notMoreDropped);
    edges.says(0, "the others are KEPT.", this::kept);
    edges.says(0, "POINTS (hundredths): what COUNTS of all that are KEPT together, times 15, times DEGREE,"
        + " by how many are KEPT, cut.", this::points);
    edges.says(0, "A DIVE that FAILED has 0, and no AWARDS.", this::failed);
    edges.says(0, "BY FORM: all its JUDGES award alike: FORM of the ENTRANT in the DIVE's GROUP,", this::byForm);
    edges.says(0, "less (DEGREE less 20) by 5 (cut towards 0),", this::byDegree);
    edges.says(0, "0 .. 20; without CAP, BALK, FAILED halves.", this::formEnds);
  }

  /** One dive of a diver with so many judges. */
  static String single(int judges, int drop, int degree) {
    return "rounds 1 drop " + drop + ";" + "judge land 1;".repeat(judges)
        + "dive fa group 1 degree " + degree + ";diver ann land 1;list ann fa;";
  }

  private DropTwo given(String meet, String acts) {
    DropTwo x = edges.meet(meet);
    edges.act(x, acts + "give;");
    return x;
  }

  private void counts(DropTwo x, int... due) {
    for (int judge = 0; judge < due.length; judge++) {
      edges.due("what counted of judge " + judge, due[judge], x.award(0, 1, judge, 1));
    }
  }

  private void awards() {
    DropTwo x = edges.meet(single(1, 0, 20));
    edges.due("the least", 1, x.mark(0, 0));
    edges.due("the most", 1, x.mark(0, 20));
    edges.due("marked", 20, x.marked(0));
    edges.beyond("mark", 0, 20, -2, award -> x.mark(0, award));
    edges.due("it stays", 20, x.marked(0));
    // Half a point, three times, by degree 1.0 is 1.50.
    edges.due("half a point", 150, given(single(1, 0, 10), "all 1;").points(0, 1));
  }

  private void panels() {
    DropTwo x = edges.meet(PAIR + "diver ann land 1;list ann fa;");
    edges.due("of a pair", 6, x.board(4));
    edges.due("a judge of divers", -3, x.mark(6, 5));
    for (int judge = 0; judge < 6; judge++) {
      edges.due("mark", judge + 1, x.mark(judge, 5));
    }
    edges.due("give", 5 * 15 * 20, x.give());
    edges.due("of a diver", 1, x.board(4));
    for (int judge = 0; judge < 6; judge++) {
      edges.due("a judge of pairs", -3, x.mark(judge, 5));
    }
    edges.due("mark", 1, x.mark(6, 5));
    edges.due("give", 5 * 15 * 20, x.give());
  }

  private void caps() {
    counts(given(single(4, 0, 20), "marks 20 0 10 9;"), 20, 0, 10, 9);
    counts(given(single(4, 0, 20), "marks 20 0 10 9;cap 9;"), 9, 0, 9, 9);
    counts(given(single(4, 0, 20), "cap 10;marks 20 0 10 9;"), 10, 0, 10, 9);
    counts(given(single(4, 0, 20), "marks 20 0 10 9;cap 0;"), 0, 0, 0, 0);
    counts(given(single(4, 0, 20), "cap 0;marks 20 0 10 9;cap 20;"), 20, 0, 10, 9);
    DropTwo x = given(single(1, 0, 20), "marks 20;cap 9;");
    edges.due("the award itself stays", 20, x.award(0, 1, 0, 0));
  }

  private void firstHalf() {
    counts(given(PAIR, "marks 20 1 20 1 3 2;half first;"), 0, 0, 20, 1, 3, 2);
    edges.due("points", (20 + 1 + 3 + 2) * 15 * 20 / 6,
        given(PAIR, "marks 20 1 20 1 3 2;half first;").points(0, 1));
  }

  private void secondHalf() {
    counts(given(PAIR, "marks 20 1 20 1 3 2;half second;"), 20, 1, 0, 0, 3, 2);
    counts(given(PAIR, "marks 20 1 20 1 3 2;half second;half first;"), 0, 0, 0, 0, 3, 2);
  }

  private void together() {
    counts(given(PAIR, "marks 5 5 5 5 20 5;half first;"), 0, 0, 5, 5, 4, 4);
    counts(given(PAIR, "marks 5 5 5 5 4 3;half second;"), 5, 5, 0, 0, 4, 3);
    counts(given(PAIR, "marks 5 5 5 5 0 5;half first;half second;"), 0, 0, 0, 0, 0, 4);
    counts(given(PAIR, "marks 5 5 5 5 20 5;"), 5, 5, 5, 5, 20, 5);
    counts(given(PAIR, "marks 5 5 5 5 20 5;half first;cap 3;"), 0, 0, 3, 3, 3, 3);
  }

  private void balks() {
    counts(given(single(6, 0, 20), "marks 0 3 4 5 20 8;balk;"), 0, 0, 0, 1, 16, 4);
    counts(given(single(3, 0, 20), "marks 20 9 8;cap 9;balk;"), 5, 5, 4);
    counts(given(PAIR, "marks 20 4 20 5 20 4;balk;half first;"), 0, 0, 16, 1, 0, 0);
    counts(given(single(2, 0, 20), "balk;marks 7 4;"), 3, 0);
  }

  private void inOrder() {
    // By what counts, not by awards: 9 9 9 of the cap, so that the first number is the first.
    DropTwo x = given(single(3, 1, 20), "marks 20 15 10;cap 9;");
    edges.due("the middle one by numbers", 2, x.kept(0, 1));
    edges.due("the middle one by awards", 2, given(single(3, 1, 20), "marks 20 15 10;").kept(0, 1));
    edges.due("the least, the greatest go", 4, given(single(3, 1, 20), "marks 20 1 10;").kept(0, 1));
    DropTwo capped = given(single(3, 1, 20), "marks 20 10 1;cap 9;");
    // 9 9 1: judge 2, then 0, then 1.
    edges.due("by what counts", 1, capped.kept(0, 1));
    edges.due("by awards it would be another one", 2, given(single(3, 1, 20), "marks 20 10 1;").kept(0, 1));
    // Each sort for itself: 1 2 3 of first, 11 12 13 of second, 20 20 0 of together.
    String three = "rounds 1 drop 1;" + "judge land 1 first;".repeat(3) + "judge land 1 second;".repeat(3)
        + "judge land 1 together;".repeat(3) + "dive fa group 1 degree 20;pair duo land 1;list duo fa;";
    DropTwo pair = given(three, "marks 1 2 3 11 12 13 20 20 0;");
    edges.due("one of each", 2 + 16 + 64, pair.kept(0, 1));
    edges.due("points", (2 + 12 + 20) * 15 * 20 / 3, pair.points(0, 1));
  }

  private void likeOnes() {
    DropTwo x = given(single(5, 2, 20), "all 7;");
    edges.due("the one in the middle", 4, x.kept(0, 1));
    edges.due("0 is among the first", 1, x.dropped(0, 0));
    edges.due("1 is among the first", 1, x.dropped(1, 0));
    edges.due("3 is among the last", 1, x.dropped(3, 1));
    edges.due("4 is among the last", 1, x.dropped(4, 1));
    DropTwo y = given(single(4, 1, 20), "marks 7 7 5 7;");
    edges.due("5 goes, and the last 7", 1 + 2, y.kept(0, 1));
    DropTwo z = given(single(4, 1, 20), "marks 5 9 5 5;");
    edges.due("the first 5 goes, and 9", 4 + 8, z.kept(0, 1));
  }

  private void dropped() {
    int[] due = {2047, 1023 - 1, 511 - 3, 255 - 7};
    for (int drop = 0; drop <= 3; drop++) {
      DropTwo x = given(single(11, drop, 20), "marks 0 1 2 3 4 5 6 7 8 9 10;");
      edges.due("kept with drop " + drop, due[drop], x.kept(0, 1));
    }
    DropTwo x = given(single(11, 3, 20), "marks 0 1 2 3 4 5 6 7 8 9 10;");
    for (int judge = 0; judge < 11; judge++) {
      edges.due("among the first " + judge, judge < 3 ? 1 : 0, x.dropped(judge, 0));
      edges.due("among the last " + judge, judge > 7 ? 1 : 0, x.dropped(judge, 1));
    }
  }

  private void notMoreDropped() {
    int[][] due = {
      {1, 2, 3, 4, 5, 6, 7, 8}, {1, 2, 1, 2, 3, 4, 5, 6}, {1, 2, 1, 2, 1, 2, 3, 4}, {1, 2, 1, 2, 1, 2, 1, 2}
    };
    for (int drop = 0; drop <= 3; drop++) {
      for (int judges = 1; judges <= 8; judges++) {
        DropTwo x = given(single(judges, drop, 20), "all 3;");
        edges.due("kept of " + judges + " with drop " + drop, due[drop][judges - 1], Integer.bitCount(x.kept(0, 1)));
      }
    }
    // Of each sort for itself: two of each are all kept, whatever the drop.
    DropTwo pair = given(PAIR.replace("drop 0", "drop 3"), "marks 1 2 3 4 5 6;");
    edges.due("kept", 63, pair.kept(0, 1));
  }

  private void kept() {
    DropTwo x = given(single(5, 1, 20), "marks 9 1 5 6 7;");
    int[] due = {0, 0, 1, 1, 1};
    for (int judge = 0; judge < 5; judge++) {
      edges.due("kept " + judge, due[judge], x.award(0, 1, judge, 2));
    }
    edges.due("as bits", 4 + 8 + 16, x.kept(0, 1));
  }

  private void points() {
    edges.due("the most", 18000, given(single(11, 0, 60), "all 20;").points(0, 1));
    edges.due("the least", 0, given(single(11, 0, 60), "all 0;").points(0, 1));
    // 10 of three judges: 10 * 15 * 10 / 3 = 500; 1 of seven by degree 11: 165 / 7 = 23.57.
    edges.due("even", 500, given(single(3, 0, 10), "marks 10 0 0;").points(0, 1));
    edges.due("cut", 23, given(single(7, 0, 11), "marks 1 0 0 0 0 0 0;").points(0, 1));
    // 25 * 15 * 13 / 4 = 1218.75: cut once, at the end.
    edges.due("cut at the end", 1218, given(single(4, 0, 13), "marks 10 5 5 5;").points(0, 1));
    edges.due("of those kept alone", 5 * 15 * 13, given(single(3, 1, 13), "marks 10 5 0;").points(0, 1));
    // A pair by all sorts together: (1 + 2 + 3 + 4 + 5 + 7) * 300 / 6.
    edges.due("of a pair", 22 * 300 / 6, given(PAIR, "marks 1 2 3 4 5 7;").points(0, 1));
  }

  private void failed() {
    DropTwo x = given(single(2, 0, 20), "all 9;fail;");
    edges.due("points", 0, x.points(0, 1));
    edges.due("kept", 0, x.kept(0, 1));
    edges.due("award", -1, x.award(0, 1, 0, 0));
    edges.due("what counted", -1, x.award(0, 1, 0, 1));
    edges.due("it was given", 1, x.entrant(0, 3));
  }

  private int expected(String form, int group, int degree) {
    return edges.meet("rounds 1 drop 0;judge land 1;judge land 1;dive fa group " + group + " degree " + degree
        + ";diver ann land 1;list ann fa;form ann " + form + ";").expected(0);
  }

  private void byForm() {
    for (int group = 1; group <= 6; group++) {
      edges.due("of group " + group, group * 15 * 20, expected("1 2 3 4 5 6", group, 20));
    }
    DropTwo x = edges.meet(EdgesOfMeets.ONE);
    edges.due("not told", 10 * 15 * 20, x.expected(0));
    DropTwo duo = edges.meet(PAIR + "form duo 7 0 0 0 0 0;");
    edges.due("of a pair", 7 * 15 * 20, duo.expected(0));
  }

  private void byDegree() {
    int[][] due = {
      {10, 2}, {11, 1}, {14, 1}, {15, 1}, {16, 0}, {19, 0}, {20, 0}, {24, 0}, {25, -1}, {29, -1}, {30, -2}, {60, -8}
    };
    for (int[] row : due) {
      edges.due("degree " + row[0], (10 + row[1]) * 15 * row[0], expected("10 0 0 0 0 0", 1, row[0]));
    }
  }

  private void formEnds() {
    edges.due("20 at most", 20 * 15 * 10, expected("19 0 0 0 0 0", 1, 10));
    edges.due("just 20", 20 * 15 * 10, expected("18 0 0 0 0 0", 1, 10));
    edges.due("just 20", 20 * 15 * 20, expected("20 0 0 0 0 0", 1, 20));
    edges.due("0 at least", 0, expected("7 0 0 0 0 0", 1, 60));
    edges.due("just 0", 0, expected("8 0 0 0 0 0", 1, 60));
    edges.due("1", 15 * 60, expected("9 0 0 0 0 0", 1, 60));
    DropTwo x = edges.meet(PAIR);
    edges.act(x, "cap 0;balk;half first;half second;all 0;");
    edges.due("whatever stands at the board", 10 * 15 * 20, x.expected(0));
    edges.act(x, "fail;");
    edges.due("whatever stands at the board", 10 * 15 * 20, x.expected(0));
  }
}
