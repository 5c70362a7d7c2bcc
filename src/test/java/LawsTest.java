/** Promises 16 to 20: laws, and the rows that obey them. */
public final class LawsTest {
  private static final Check CHECK = new Check("laws");
  private static final String DIVES =
      "judge land 1;judge land 1 first;judge land 1 second;judge land 1 together;"
          + "dive a group 1 degree 20;dive b group 2 degree 30;dive c group 1 degree 25;"
          + "dive d group 3 degree 40;diver ann land 1;pair duo land 1;";

  public static void main(String[] args) {
    facts();
    arithmetic();
    logic();
    breaking();
    rows();
    noRows();
    manyRows();
    manyRowsOfBoth();
    anotherMeet();
    bestRows();
    CHECK.finish();
  }

  private static DropTwo meet(int rounds, String lists, String... laws) {
    DropTwo x = new DropTwo();
    StringBuilder text = new StringBuilder("rounds " + rounds + " drop 0;" + DIVES + lists);
    for (String law : laws) {
      text.append("law ").append(law).append(';');
    }
    CHECK.isTrue("meet " + String.join(" ; ", laws), Check.meet(x, text.toString()) > 0);
    return x;
  }

  private static void facts() {
    DropTwo x = meet(3, "list ann a b c;list duo c d a;", "rounds = 3", "round = 2", "group = 1",
        "degree > 24", "sum = 75", "seen = 2");
    int[][] ann = {{1, 1, 1}, {0, 1, 0}, {1, 0, 1}, {0, 1, 1}, {0, 0, 1}, {0, 0, 1}};
    for (int law = 0; law < 6; law++) {
      for (int round = 1; round <= 3; round++) {
        CHECK.due("law(" + law + ", 0, " + round + ")", ann[law][round - 1], x.law(law, 0, round));
      }
    }
    CHECK.due("sum of duo", 0, x.law(4, 1, 3));
    CHECK.due("seen of duo", 1, x.law(5, 1, 3));
    CHECK.due("law(6, 0, 1)", -1, x.law(6, 0, 1));
    CHECK.due("law(-1, 0, 1)", -1, x.law(-1, 0, 1));
    CHECK.due("law(0, 2, 1)", -1, x.law(0, 2, 1));
    CHECK.due("law(0, -1, 1)", -1, x.law(0, -1, 1));
    CHECK.due("law(0, 0, 0)", -1, x.law(0, 0, 0));
    CHECK.due("law(0, 0, 4)", -1, x.law(0, 0, 4));
    DropTwo y = meet(3, "list ann a b c;list duo c d a;", "unlike = 2", "pair = 1", "unlike = 1");
    CHECK.due("one group", 0, y.law(0, 0, 1));
    CHECK.due("two groups", 1, y.law(0, 0, 2));
    CHECK.due("still two groups", 1, y.law(0, 0, 3));
    CHECK.due("one group", 1, y.law(2, 0, 1));
    CHECK.due("a diver", 0, y.law(1, 0, 1));
    CHECK.due("a pair", 1, y.law(1, 1, 1));
  }

  /** Each of these is so (1) or not (0) in the first round of ann's list. */
  private static void so(int due, String law) {
    DropTwo x = meet(1, "list ann a;list duo a;", law);
    CHECK.due(law, due, x.law(0, 0, 1));
  }

  private static void arithmetic() {
    so(1, "1 + 2 * 3 = 7");
    so(1, "( 1 + 2 ) * 3 = 9");
    so(1, "10 - 3 - 2 = 5");
    so(1, "10 - ( 3 - 2 ) = 9");
    so(1, "20 / 6 / 2 = 1");
    so(1, "7 * 3 / 2 = 10");
    so(1, "( 0 - 7 ) / 2 = 0 - 3");
    so(1, "( 0 - 7 ) % 2 = 0 - 1");
    so(1, "7 % ( 0 - 4 ) = 3");
    so(1, "5 / 0 = 0");
    so(1, "5 % 0 = 0");
    so(1, "9999 * 9999 * 9999 * 9999 > 9999 * 9999 * 9999");
    // 2 to the 63rd wraps to the least long, which stays itself by -1 and has no rest.
    String least = "( 2048 * 2048 * 2048 * 2048 * 2048 * 256 )";
    so(1, least + " < 0");
    so(1, least + " / ( 0 - 1 ) = " + least);
    so(1, least + " % ( 0 - 1 ) = 0");
    so(1, least + " - 1 > 0");
    so(1, least + " * 2 = 0");
    so(0, "1 < 1");
    so(0, "1 > 1");
    so(1, "0007 = 7");
  }

  private static void logic() {
    so(1, "1 = 1 or 1 = 2 and 1 = 2");
    so(0, "[ 1 = 1 or 1 = 2 ] and 1 = 2");
    so(0, "not 1 = 1");
    so(1, "not not 1 = 1");
    so(1, "not 1 = 2 and 2 = 2");
    so(1, "not [ 1 = 1 and 1 = 2 ]");
    so(0, "not 1 = 1 or 1 = 2");
    so(1, "not 1 = 1 or 2 = 2");
    so(1, "1 = 2 or 1 = 3 or 1 = 1");
    so(0, "1 = 1 and 2 = 2 and 1 = 2");
    so(1, "1=1");
    so(1, "not not not not not not 1 = 1");
    so(1, "[ [ [ [ [ [ 1 = 1 ] ] ] ] ] ]");
    so(1, "( ( ( ( ( ( 1 ) ) ) ) ) ) = 1");
  }

  private static void breaking() {
    DropTwo x = meet(3, "list ann a b c;list duo b d a;", "round > 0", "seen < 2", "sum < 75");
    CHECK.due("breaks(0, 0)", 3, x.breaks(0, 0));
    CHECK.due("breaks(0, 1)", 1, x.breaks(0, 1));
    CHECK.due("breaks(1, 0)", 3, x.breaks(1, 0));
    CHECK.due("breaks(1, 1)", 2, x.breaks(1, 1));
    CHECK.due("breaks(2, 0)", -1, x.breaks(2, 0));
    CHECK.due("breaks(-1, 0)", -1, x.breaks(-1, 0));
    CHECK.due("breaks(0, 2)", -1, x.breaks(0, 2));
    CHECK.due("breaks(0, -1)", -1, x.breaks(0, -1));
    DropTwo y = meet(3, "list ann a b c;list duo b d a;", "pair = 1 or degree > 20");
    CHECK.due("breaks(0, 0)", 1, y.breaks(0, 0));
    CHECK.due("breaks(0, 1)", 0, y.breaks(0, 1));
    CHECK.due("obeys", 0, y.breaks(1, 0));
    CHECK.due("obeys", -1, y.breaks(1, 1));
    DropTwo z = meet(3, "list ann a b c;list duo b d a;");
    CHECK.due("no laws", 0, z.breaks(0, 0));
    CHECK.due("no laws", -1, z.breaks(0, 1));
  }

  private static void rows() {
    // No group twice, and for divers the degrees rise: a b, a d, b d, c b, c d for ann.
    DropTwo x = meet(2, "list ann a b;list duo a b;", "seen = 1",
        "pair = 1 or round = 1 or degree * 2 > sum");
    int[][] ann = {{0, 1}, {0, 3}, {1, 3}, {2, 1}, {2, 3}};
    CHECK.due("ways(0)", 5, x.ways(0));
    for (int k = 0; k < 5; k++) {
      CHECK.due("way(0, " + k + ", 1)", ann[k][0], x.way(0, k, 1));
      CHECK.due("way(0, " + k + ", 2)", ann[k][1], x.way(0, k, 2));
    }
    CHECK.due("way(0, 5, 1)", -1, x.way(0, 5, 1));
    CHECK.due("way(0, -1, 1)", -1, x.way(0, -1, 1));
    CHECK.due("way(0, 0, 0)", -1, x.way(0, 0, 0));
    CHECK.due("way(0, 0, 3)", -1, x.way(0, 0, 3));
    CHECK.due("way(2, 0, 1)", -1, x.way(2, 0, 1));
    CHECK.due("way(-1, 0, 1)", -1, x.way(-1, 0, 1));
    CHECK.due("ways(1)", 10, x.ways(1));
    CHECK.due("ways(2)", -1, x.ways(2));
    CHECK.due("ways(-1)", -1, x.ways(-1));
    CHECK.due("the last of duo", 3, x.way(1, 9, 1));
    CHECK.due("the last of duo", 2, x.way(1, 9, 2));
    CHECK.due("change leaves them", 1, x.change(0, 2, 3));
    CHECK.due("ways(0)", 5, x.ways(0));
  }

  private static void noRows() {
    DropTwo x = meet(2, "list ann a b;list duo a b;", "degree > 60");
    CHECK.due("ways(0)", 0, x.ways(0));
    CHECK.due("way(0, 0, 1)", -1, x.way(0, 0, 1));
    CHECK.due("best(0, 0)", -1, x.best(0, 0));
    CHECK.due("best(0, 1)", -1, x.best(0, 1));
    CHECK.due("order(0, 0)", -1, x.order(0, 0));
    DropTwo late = meet(3, "list ann a b c;list duo a b c;", "round < 3");
    CHECK.due("only the last round breaks", 0, late.ways(0));
    CHECK.due("only the last round breaks", -1, late.best(0, 0));
  }

  private static void manyRows() {
    StringBuilder text = new StringBuilder("rounds 6 drop 0;judge land 1;diver ann land 1;");
    for (int d = 0; d < 10; d++) {
      text.append("dive ").append((char) ('a' + d)).append(" group 1 degree ").append(20 + d).append(';');
    }
    text.append("list ann a b c d e f;");
    DropTwo x = new DropTwo();
    CHECK.due("meet", 14, Check.meet(x, text.toString()));
    CHECK.due("ways", 151200, x.ways(0));
    CHECK.due("the last one", 9, x.way(0, 151199, 1));
    CHECK.due("the last one", 4, x.way(0, 151199, 6));
    CHECK.due("the second one", 6, x.way(0, 1, 6));
    CHECK.due("behind the last one", -1, x.way(0, 151200, 1));
    // FORM is 10 up to degree 24, then 9: the best six are those of 29, 28, 27, 24, 26, 23.
    CHECK.due("best", 15 * (10 * (23 + 24) + 9 * (26 + 27 + 28 + 29)), x.best(0, 0));
    CHECK.due("best", 3, x.best(0, 1));
    CHECK.due("best", 4, x.best(0, 2));
    CHECK.due("best", 6, x.best(0, 3));
    CHECK.due("best", 9, x.best(0, 6));
    // All of another meet is worked out anew.
    CHECK.due("meet", 15, Check.meet(x, text + "law degree < 26;"));
    CHECK.due("ways", 720, x.ways(0));
  }

  private static void manyRowsOfBoth() {
    StringBuilder text = new StringBuilder("rounds 6 drop 0;judge land 1;judge land 1 first;"
        + "judge land 1 second;judge land 1 together;diver ann land 1;pair duo land 1;");
    for (int d = 0; d < 10; d++) {
      text.append("dive ").append((char) ('a' + d)).append(" group 1 degree ").append(20 + d).append(';');
    }
    text.append("list ann a b c d e f;list duo a b c d e f;law pair = 0 or degree < 27;");
    DropTwo x = new DropTwo();
    CHECK.due("meet", 20, Check.meet(x, text.toString()));
    CHECK.due("seven dives for six rounds", 5040, x.ways(1));
    CHECK.due("all of a diver", 151200, x.ways(0));
    CHECK.due("those of the pair are still the same", 5040, x.ways(1));
    CHECK.due("the last one of the pair", 6, x.way(1, 5039, 1));
    CHECK.due("the last one of the pair", 1, x.way(1, 5039, 6));
    CHECK.due("the best one of the pair", 15 * (10 * (21 + 22 + 23 + 24) + 9 * (25 + 26)), x.best(1, 0));
  }

  /** Nothing of a meet ahead is left in what is worked out of the next one. */
  private static void anotherMeet() {
    String two = "judge land 1;dive a group 1 degree 20;dive b group 2 degree 20;";
    DropTwo x = new DropTwo();
    Check.meet(x, "rounds 1 drop 0;" + two + "dive c group 1 degree 20;diver ann land 1;list ann a;law not 1 = 2;");
    CHECK.due("it is so", 1, x.law(0, 0, 1));
    CHECK.due("best of one round", 3000, x.best(0, 0));
    Check.meet(x, "rounds 2 drop 0;" + two + "diver ann land 1;list ann a b;law 1 = 1;");
    CHECK.due("a shorter law", 1, x.law(0, 0, 1));
    CHECK.due("as many dives as rounds", 2, x.ways(0));
    CHECK.due("best of both", 6000, x.best(0, 0));
    CHECK.due("order of both", 6000, x.order(0, 0));
  }

  private static void bestRows() {
    // a 10 * 15 * 20 = 3000, b 8 * 15 * 30 = 3600, c 9 * 15 * 25 = 3375, d 6 * 15 * 40 = 3600.
    DropTwo x = meet(2, "list ann a b;list duo a c;form duo 20 0 0 0 0 0;", "seen = 1");
    CHECK.due("best(0, 0)", 7200, x.best(0, 0));
    CHECK.due("best(0, 1)", 1, x.best(0, 1));
    CHECK.due("best(0, 2)", 3, x.best(0, 2));
    CHECK.due("best(0, 3)", -1, x.best(0, 3));
    CHECK.due("best(0, -1)", -1, x.best(0, -1));
    CHECK.due("best(2, 0)", -1, x.best(2, 0));
    CHECK.due("best(-1, 0)", -1, x.best(-1, 0));
    // c 19 * 15 * 25 = 7125 with b or d, which have 0 (below 0 is 0); the first such row is b c.
    CHECK.due("best(1, 0)", 7125, x.best(1, 0));
    CHECK.due("best(1, 1)", 1, x.best(1, 1));
    CHECK.due("best(1, 2)", 2, x.best(1, 2));
    // Below degree 20 the form is more, but 20 at most.
    DropTwo y = new DropTwo();
    Check.meet(y, "rounds 1 drop 0;judge land 1;dive a group 1 degree 10;dive b group 2 degree 16;"
        + "dive c group 3 degree 15;diver ann land 1;list ann a;form ann 19 3 4 0 0 0;");
    CHECK.due("twenty at most", 20 * 15 * 10, y.best(0, 0));
    CHECK.due("expected", 20 * 15 * 10, y.expected(0));
    CHECK.due("change at the board", -3, y.change(0, 1, 1));
    DropTwo z = new DropTwo();
    Check.meet(z, "rounds 1 drop 0;judge land 1;dive a group 1 degree 16;diver ann land 1;list ann a;"
        + "form ann 3 0 0 0 0 0;");
    CHECK.due("cut towards 0", 3 * 15 * 16, z.best(0, 0));
    DropTwo w = new DropTwo();
    Check.meet(w, "rounds 1 drop 0;judge land 1;dive a group 1 degree 15;diver ann land 1;list ann a;"
        + "form ann 3 0 0 0 0 0;");
    CHECK.due("one more", 4 * 15 * 15, w.best(0, 0));
  }
}
