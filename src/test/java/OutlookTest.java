/** Promises 39 to 51: what would be. */
public final class OutlookTest {
  private static final Check CHECK = new Check("outlook");

  private static final String TWO =
      "dive fa group 1 degree 20;dive ba group 2 degree 30;dive re group 3 degree 25;"
          + "diver ann land 1;diver bob land 2;list ann fa ba;list bob ba re;";
  private static final String FIVE = "judge land 1;judge land 2;judge land 3;judge land 1;judge land 2;";

  public static void main(String[] args) {
    worths();
    needing();
    swings();
    bribing();
    bribingPairs();
    biases();
    alikes();
    droppings();
    withouts();
    drops();
    expecting();
    going();
    orders();
    ordersAheadOfACut();
    winning();
    winningFromTheBoard();
    CHECK.finish();
  }

  private static DropTwo meet(String text) {
    DropTwo x = new DropTwo();
    CHECK.isTrue("meet " + text, Check.meet(x, text) > 0);
    return x;
  }

  private static void script(DropTwo x, String text) {
    CHECK.isTrue("script " + text, Check.script(x, text) > 0);
  }

  private static void worths() {
    DropTwo x = meet("rounds 2 drop 1;" + FIVE + TWO);
    CHECK.due("worth", 13 * 15 * 20, x.worth(0, 1, 13));
    CHECK.due("worth", 20 * 15 * 25, x.worth(1, 2, 20));
    CHECK.due("worth of nothing", 0, x.worth(1, 2, 0));
    script(x, "cap 3;balk;all 10;give;");
    CHECK.due("worth of what was given", 13 * 15 * 20, x.worth(0, 1, 13));
    CHECK.due("change", 1, x.change(0, 2, 2));
    CHECK.due("the list as it is", 10 * 15 * 25, x.worth(0, 2, 10));
    CHECK.due("no such award", -1, x.worth(0, 1, 21));
    CHECK.due("no such award", -1, x.worth(0, 1, -1));
    CHECK.due("no such round", -1, x.worth(0, 3, 1));
    CHECK.due("no such round", -1, x.worth(0, 0, 1));
    CHECK.due("no such entrant", -1, x.worth(2, 1, 1));
    CHECK.due("no such entrant", -1, x.worth(-1, 1, 1));
  }

  private static void needing() {
    DropTwo x = meet("rounds 2 drop 1;" + FIVE + TWO);
    CHECK.due("all are at 0", 1, x.needs(0, 1));
    script(x, "all 12;give;");
    // ann has 3600; ba is worth 450 for each half point: 8 make just as much.
    CHECK.due("greater, not alike", 9, x.needs(1, 0));
    CHECK.due("ahead already", 0, x.needs(0, 1));
    script(x, "cap 2;balk;");
    CHECK.due("whatever stands at the board", 9, x.needs(1, 0));
    CHECK.due("alike ones", -1, x.needs(0, 0));
    CHECK.due("no such one", -1, x.needs(0, 2));
    CHECK.due("no such one", -1, x.needs(2, 0));
    CHECK.due("no such one", -1, x.needs(-1, 0));
    CHECK.due("no such one", -1, x.needs(0, -1));
    script(x, "fail;give;all 20;give;");
    CHECK.due("not with 20", -1, x.needs(1, 0));
    CHECK.due("no such dive", -1, x.needs(0, 1));
    script(x, "out bob;");
    CHECK.due("not in", -1, x.needs(1, 0));
    DropTwo y = meet("rounds 2 drop 1;" + FIVE + TWO);
    script(y, "out bob;all 2;give;");
    CHECK.due("of one who is out", 0, y.needs(0, 1));
    CHECK.due("not in", -1, y.needs(1, 0));
    // Behind a cut anew both begin at 0, and who was cut does not.
    DropTwo z = meet("rounds 2 drop 1;" + FIVE + TWO + "cut 1 most 1 anew;");
    script(z, "all 12;give;all 10;give;");
    CHECK.due("ann was cut with 3600", 10, z.needs(1, 0));
  }

  private static void swings() {
    DropTwo x = meet("rounds 2 drop 1;" + FIVE + TWO);
    CHECK.due("not given", -1, x.swing(0, 1, 0));
    script(x, "marks 14 12 13 15 12;give;");
    // Without judge 0: 12 12 13 15; it at 0 keeps 12 12 13, at 20 12 13 15.
    CHECK.due("swing", 3 * 15 * 20 / 3, x.swing(0, 1, 0));
    // Without judge 3: 12 12 13 14: 12 12 13 or 12 13 14.
    CHECK.due("swing", 2 * 15 * 20 / 3, x.swing(0, 1, 3));
    CHECK.due("no such judge", -1, x.swing(0, 1, 5));
    CHECK.due("no such judge", -1, x.swing(0, 1, -1));
    CHECK.due("no such round", -1, x.swing(0, 0, 0));
    CHECK.due("no such round", -1, x.swing(0, 3, 0));
    CHECK.due("no such entrant", -1, x.swing(2, 1, 0));
    script(x, "fail;give;");
    CHECK.due("it failed", -1, x.swing(1, 1, 0));
    // One judge alone, with a cap and a balk: 0 or 9 less 4.
    DropTwo y = meet("rounds 2 drop 3;judge land 1;judge land 2 first;" + TWO);
    script(y, "cap 9;balk;all 3;give;");
    CHECK.due("swing", 5 * 15 * 20, y.swing(0, 1, 0));
    CHECK.due("none of its judges", -1, y.swing(0, 1, 1));
  }

  private static void bribing() {
    DropTwo x = meet("rounds 2 drop 1;" + FIVE + TWO);
    CHECK.due("not given", -1, x.bribes(0, 1, 1));
    script(x, "marks 10 11 12 13 14;give;all 10;give;");
    // ann 36 * 100 = 3600, bob 4500. The three kept must make more than 45 together:
    // one at 20 makes 12 13 14 (39), two 13 14 20 (47).
    CHECK.due("two", 2, x.bribes(0, 1, 1));
    CHECK.due("it is", 0, x.bribes(1, 1, 0));
    CHECK.due("alike ones", -1, x.bribes(0, 1, 0));
    CHECK.due("not given", -1, x.bribes(0, 2, 1));
    CHECK.due("no such one", -1, x.bribes(0, 1, 2));
    CHECK.due("no such one", -1, x.bribes(0, 1, -1));
    CHECK.due("no such one", -1, x.bribes(2, 1, 0));
    CHECK.due("no such round", -1, x.bribes(0, 0, 1));
    CHECK.due("no such round", -1, x.bribes(0, 3, 1));
    script(x, "fail;give;all 20;give;");
    // ann 3600, bob 4500 + 7500: not with 20 of all, that is 6000.
    CHECK.due("not all together", -2, x.bribes(0, 1, 1));
    CHECK.due("a dive that failed", -2, x.bribes(0, 2, 1));
    CHECK.due("it is", 0, x.bribes(1, 2, 0));
    // Like totals: greater is asked, so one is needed at least.
    DropTwo y = meet("rounds 2 drop 0;" + FIVE + TWO.replace("list bob ba re", "list bob fa re"));
    script(y, "all 9;give;all 9;give;");
    CHECK.due("one", 1, y.bribes(0, 1, 1));
    // All eleven: 11 * 20 is more than 219, ten of them and a 0 are not.
    DropTwo v = meet("rounds 2 drop 0;" + "judge land 1;".repeat(11)
        + TWO.replace("list bob ba re", "list bob fa re"));
    script(v, "all 0;give;marks 20 20 20 20 20 20 20 20 20 20 19;give;");
    CHECK.due("all eleven", 11, v.bribes(0, 1, 1));
    // A cap stands: 9 at most counts, so nothing helps.
    DropTwo z = meet("rounds 2 drop 0;" + FIVE + TWO.replace("list bob ba re", "list bob fa re"));
    script(z, "cap 9;all 9;give;all 9;give;");
    CHECK.due("by the cap", -2, z.bribes(0, 1, 1));
    // Points ahead of a cut anew are none of the total.
    DropTwo w = meet("rounds 2 drop 0;" + FIVE + TWO + "cut 1 most 2 anew;");
    script(w, "all 9;give;all 9;give;");
    CHECK.due("ahead of a cut anew", -2, w.bribes(0, 1, 1));
    script(w, "all 9;give;all 8;give;");
    CHECK.due("ahead of a cut anew", -2, w.bribes(1, 1, 0));
    CHECK.due("it is, whatever the round", 0, w.bribes(0, 1, 1));
    CHECK.due("behind it", 2, w.bribes(1, 2, 0));
  }

  private static void bribingPairs() {
    String pairs = "rounds 1 drop 1;judge land 1 first;judge land 1 first;judge land 1 first;"
        + "judge land 1 second;judge land 1 second;judge land 1 second;judge land 1 together;"
        + "dive fa group 1 degree 20;pair a land 1;pair b land 1;list a fa;list b fa;";
    // The kept middles make the points: together alone moves them at once.
    DropTwo x = meet(pairs);
    script(x, "all 10;give;marks 10 10 10 10 10 10 11;give;");
    CHECK.due("one of together", 1, x.bribes(0, 1, 1));
    // First has failed for a: 0 whatever they mark; 20 for the one of together counts 4.
    DropTwo y = meet(pairs);
    script(y, "marks 10 10 10 10 10 10 4;half first;give;all 5;give;");
    // a: 0 + 10 + 4 = 14, b: 15; two of second at 20 make 0 + 20 + 4.
    CHECK.due("two of second", 2, y.bribes(0, 1, 1));
    DropTwo z = meet(pairs);
    script(z, "all 10;half first;half second;give;all 2;give;");
    CHECK.due("nothing helps", -2, z.bribes(0, 1, 1));
    // Two of one sort and one of another are needed: 1 + 1 + 1 to more than 40 of 60.
    DropTwo w = meet(pairs);
    script(w, "all 1;give;all 14;give;");
    CHECK.due("all three", 5, w.bribes(0, 1, 1));
  }

  private static void biases() {
    DropTwo x = meet("rounds 2 drop 1;" + FIVE + TWO);
    for (int what = 0; what < 4; what++) {
      CHECK.due("nothing yet", 0, x.bias(0, what));
    }
    script(x, "marks 14 12 13 15 12;give;balk;marks 16 15 17 16 18;give;");
    // ann is of land 1, the middle one 13; bob of land 2, the middle one 16 (awards, not counts).
    CHECK.due("own", 1, x.bias(0, 0));
    CHECK.due("own", 1, x.bias(0, 1));
    CHECK.due("other", 1, x.bias(0, 2));
    CHECK.due("other", 0, x.bias(0, 3));
    CHECK.due("own", -1, x.bias(1, 1));
    CHECK.due("other", -1, x.bias(1, 3));
    CHECK.due("no own", 0, x.bias(2, 0));
    CHECK.due("no own", 0, x.bias(2, 1));
    CHECK.due("two others", 2, x.bias(2, 2));
    CHECK.due("two others", 1, x.bias(2, 3));
    script(x, "fail;give;");
    CHECK.due("not what failed", 1, x.bias(0, 0));
    CHECK.due("no such judge", DropTwo.NOTHING, x.bias(5, 0));
    CHECK.due("no such judge", DropTwo.NOTHING, x.bias(-1, 0));
    CHECK.due("no such what", DropTwo.NOTHING, x.bias(0, 4));
    CHECK.due("no such what", DropTwo.NOTHING, x.bias(0, -1));
    // Of an even number of awards the lower of the two in the middle; of its sort alone.
    DropTwo y = meet("rounds 1 drop 0;judge land 1 first;judge land 1 first;judge land 1 second;"
        + "judge land 1 together;judge land 1;dive fa group 1 degree 20;pair a land 1;list a fa;");
    script(y, "marks 4 9 20 0;give;");
    CHECK.due("the middle itself", 0, y.bias(0, 1));
    CHECK.due("above it", 5, y.bias(1, 1));
    CHECK.due("alone of its sort", 0, y.bias(2, 1));
    CHECK.due("it judged none", 0, y.bias(4, 0));
  }

  private static void alikes() {
    DropTwo x = meet("rounds 2 drop 1;judge land 1 first;" + FIVE + TWO);
    CHECK.due("none yet", 0, x.alike(1, 2));
    script(x, "cap 9;marks 14 12 13 15 12;give;marks 1 1 2 3 1;give;");
    CHECK.due("both", 2, x.alike(2, 5));
    CHECK.due("once", 1, x.alike(1, 2));
    CHECK.due("not by what counts", 0, x.alike(3, 4));
    CHECK.due("of other dives", 0, x.alike(0, 1));
    CHECK.due("alike ones", -1, x.alike(1, 1));
    CHECK.due("no such one", -1, x.alike(1, 6));
    CHECK.due("no such one", -1, x.alike(-1, 1));
    script(x, "all 3;fail;give;");
    CHECK.due("not what failed", 2, x.alike(2, 5));
  }

  private static void droppings() {
    DropTwo x = meet("rounds 2 drop 1;judge land 1 first;" + FIVE + TWO);
    CHECK.due("none yet", 0, x.dropped(1, 2));
    script(x, "marks 14 12 13 15 12;give;marks 1 1 1 1 1;give;");
    int[][] due = {{0, 0, 0}, {1, 0, 1}, {1, 0, 1}, {0, 0, 2}, {0, 1, 1}, {0, 1, 1}};
    for (int judge = 0; judge < 6; judge++) {
      for (int what = 0; what < 3; what++) {
        CHECK.due("dropped(" + judge + ", " + what + ")", due[judge][what], x.dropped(judge, what));
      }
    }
    script(x, "fail;give;");
    CHECK.due("not what failed", 2, x.dropped(3, 2));
    CHECK.due("no such one", -1, x.dropped(6, 0));
    CHECK.due("no such one", -1, x.dropped(-1, 0));
    CHECK.due("no such what", -1, x.dropped(1, 3));
    CHECK.due("no such what", -1, x.dropped(1, -1));
  }

  private static void withouts() {
    DropTwo x = meet("rounds 2 drop 2;judge land 1 first;" + FIVE + TWO);
    CHECK.due("ahead of any dive", 0, x.without(1, 0));
    script(x, "marks 14 12 13 15 12;give;fail;give;all 10;give;");
    // 13 alone is kept of five; without judge 2 of 12 13 14 15 one at each end goes.
    CHECK.due("total", 13 * 15 * 20 + 10 * 15 * 30, x.total(0, 0));
    CHECK.due("without 1", 25 * 15 * 20 / 2 + 10 * 15 * 30, x.without(1, 0));
    CHECK.due("without 2", 27 * 15 * 20 / 2 + 10 * 15 * 30, x.without(2, 0));
    CHECK.due("without 4", 25 * 15 * 20 / 2 + 10 * 15 * 30, x.without(4, 0));
    CHECK.due("it judges it not", 13 * 15 * 20 + 10 * 15 * 30, x.without(0, 0));
    CHECK.due("what failed", 0, x.without(1, 1));
    CHECK.due("no such one", -1, x.without(6, 0));
    CHECK.due("no such one", -1, x.without(-1, 0));
    CHECK.due("no such one", -1, x.without(1, 2));
    CHECK.due("no such one", -1, x.without(1, -1));
    DropTwo y = meet("rounds 2 drop 2;judge land 1 first;judge land 2;" + TWO + "cut 1 most 1 anew;");
    CHECK.due("the only one, ahead of any dive", -2, y.without(1, 0));
    CHECK.due("the only one, of pairs", 0, y.without(0, 0));
    CHECK.due("no such one", -1, y.without(1, 2));
    DropTwo z = meet("rounds 2 drop 0;judge land 1;judge land 2;" + TWO + "cut 1 most 1 anew;");
    script(z, "marks 2 8;give;marks 4 6;give;");
    CHECK.due("cuts stay: anew", 0, z.without(0, 1));
    CHECK.due("ann was cut", 8 * 15 * 20, z.without(0, 0));
    script(z, "marks 5 7;give;");
    CHECK.due("of the second round alone", 7 * 15 * 25, z.without(0, 1));
    Check.meet(z, "rounds 2 drop 0;judge land 1;judge land 2;" + TWO + "cut 1 most 1 anew;");
    script(z, "marks 9 9;give;marks 4 6;give;");
    CHECK.due("a new meet: bob was cut behind its first dive", 6 * 15 * 30, z.without(0, 1));
    CHECK.due("likewise", 10 * 15 * 30 / 2, z.asDrop(0, 1));
  }

  private static void drops() {
    DropTwo x = meet("rounds 2 drop 1;judge land 1 first;" + FIVE + TWO);
    script(x, "marks 14 12 13 15 12;give;fail;give;cap 9;all 10;give;");
    CHECK.due("0", 66 * 15 * 20 / 5 + 4050, x.asDrop(0, 0));
    CHECK.due("1", x.total(0, 0), x.asDrop(1, 0));
    CHECK.due("1", 39 * 15 * 20 / 3 + 4050, x.asDrop(1, 0));
    CHECK.due("2", 13 * 15 * 20 + 4050, x.asDrop(2, 0));
    CHECK.due("no more than 2 of five", 13 * 15 * 20 + 4050, x.asDrop(3, 0));
    CHECK.due("what failed", 0, x.asDrop(0, 1));
    CHECK.due("no such drop", -1, x.asDrop(4, 0));
    CHECK.due("no such drop", -1, x.asDrop(-1, 0));
    CHECK.due("no such one", -1, x.asDrop(0, 2));
    CHECK.due("no such one", -1, x.asDrop(0, -1));
    DropTwo y = meet("rounds 2 drop 1;judge land 1;judge land 1;judge land 1;" + TWO);
    script(y, "marks 9 0 0;give;");
    CHECK.due("no points", 0, y.total(0, 0));
    CHECK.due("they would have counted", 9 * 15 * 20 / 3, y.asDrop(0, 0));
    CHECK.due("they would have counted", 9 * 15 * 20 / 2, y.without(1, 0));
    DropTwo z = meet("rounds 2 drop 0;" + FIVE + TWO + "cut 1 most 1 anew;");
    script(z, "marks 2 8 2 2 2;give;marks 4 6 4 4 9;give;");
    CHECK.due("cuts stay: anew", 0, z.asDrop(2, 1));
    CHECK.due("ann was cut", 2 * 15 * 20, z.asDrop(2, 0));
  }

  private static void expecting() {
    DropTwo x = meet("rounds 2 drop 1;" + FIVE + TWO + "form ann 12 3 0 0 0 0;cut 1 most 1 anew;");
    CHECK.due("fa 12, ba 3 less 2", 12 * 15 * 20 + 1 * 15 * 30, x.expected(0));
    CHECK.due("ba 10 less 2, re 10 less 1", 8 * 15 * 30 + 9 * 15 * 25, x.expected(1));
    script(x, "marks 1 2 3 4 5;");
    CHECK.due("not given yet", 12 * 15 * 20 + 1 * 15 * 30, x.expected(0));
    script(x, "give;");
    CHECK.due("given", 3 * 15 * 20 + 1 * 15 * 30, x.expected(0));
    CHECK.due("no such one", -1, x.expected(2));
    CHECK.due("no such one", -1, x.expected(-1));
    script(x, "all 4;give;");
    CHECK.due("cut", -1, x.expected(0));
    CHECK.due("anew", 9 * 15 * 25, x.expected(1));
    script(x, "all 4;give;");
    CHECK.due("over", 4 * 15 * 25, x.expected(1));
  }

  private static void going() {
    DropTwo x = meet("rounds 3 drop 0;judge land 1;dive fa group 1 degree 20;dive ba group 2 degree 20;"
        + "dive re group 3 degree 20;diver a land 1;diver b land 1;diver c land 1;"
        + "list a fa ba re;list b fa ba re;list c fa ba re;form a 5 9 0 0 0 0;form b 8 8 0 0 0 0;"
        + "form c 9 5 0 0 0 0;cut 2 most 1;");
    // Up to round 2 by form: 14, 16, 14.
    CHECK.due("a", 0, x.goes(0));
    CHECK.due("b", 1, x.goes(1));
    CHECK.due("c", 0, x.goes(2));
    script(x, "all 7;give;");
    CHECK.due("as much as the last", 1, x.goes(0));
    CHECK.due("as much as the last", 1, x.goes(1));
    CHECK.due("no such one", -1, x.goes(3));
    CHECK.due("no such one", -1, x.goes(-1));
    script(x, "out b;");
    CHECK.due("a now", 1, x.goes(0));
    CHECK.due("c still not", 0, x.goes(2));
    CHECK.due("not in", -1, x.goes(1));
    script(x, "all 9;give;all 9;give;");
    // The cut behind the round that goes on just now comes still; c by form 9 + 5.
    CHECK.due("a", 1, x.goes(0));
    CHECK.due("c", 0, x.goes(2));
    script(x, "all 7;give;");
    CHECK.due("both went on", 2, x.look(9));
    CHECK.due("no cut comes", -1, x.goes(0));
    DropTwo y = meet("rounds 2 drop 1;" + FIVE + TWO);
    CHECK.due("no cut", -1, y.goes(0));
    DropTwo z = meet("rounds 2 drop 1;" + FIVE + TWO + "cut 1 most 1;");
    script(z, "out ann;out bob;");
    CHECK.due("over", -1, z.goes(0));
  }

  private static final String THREE =
      "judge land 1;dive a group 1 degree 20;dive b group 2 degree 20;dive c group 3 degree 20;"
          + "dive d group 4 degree 20;diver x land 1;diver y land 1;form x 5 9 7 1 0 0;";

  private static void orders() {
    DropTwo x = meet("rounds 3 drop 0;" + THREE + "list x c b a;list y a b c;law seen = 1;");
    // x is at the board with c: a and b may change places; all rounds count, so the least row.
    int[] due = {(5 + 9 + 7) * 300, 2, 0, 1};
    for (int what = 0; what <= 3; what++) {
      CHECK.due("order(0, " + what + ")", due[what], x.order(0, what));
    }
    int[] other = {30 * 300, 0, 1, 2};
    for (int what = 0; what <= 3; what++) {
      CHECK.due("order(1, " + what + ")", other[what], x.order(1, what));
    }
    CHECK.due("no such what", -1, x.order(0, 4));
    CHECK.due("no such what", -1, x.order(0, -1));
    CHECK.due("no such one", -1, x.order(2, 0));
    CHECK.due("no such one", -1, x.order(-1, 0));
    script(x, "all 20;give;all 1;give;");
    CHECK.due("rounds not given alone", (5 + 9) * 300, x.order(0, 0));
    CHECK.due("given ones too", 2, x.order(0, 1));
    CHECK.due("the one at the board stays", 1, x.order(0, 2));
    CHECK.due("the last one", 0, x.order(0, 3));
    script(x, "out y;");
    CHECK.due("not in", -1, x.order(1, 0));
    script(x, "all 2;give;all 2;give;");
    CHECK.due("over", 1, x.look(8));
    CHECK.due("none is left", 0, x.order(0, 0));
    CHECK.due("as given", 1, x.order(0, 2));
  }

  private static void ordersAheadOfACut() {
    String cut = "cut 2 most 2;";
    DropTwo x = meet("rounds 4 drop 0;" + THREE + "list x d c a b;list y d c a b;" + cut);
    // x is at the board with d: of the others the best one goes to round 2, then the least row.
    int[] due = {(1 + 9) * 300, 3, 1, 0, 2};
    for (int what = 0; what <= 4; what++) {
      CHECK.due("order(0, " + what + ")", due[what], x.order(0, what));
    }
    script(x, "all 1;give;");
    CHECK.due("up to the cut", 9 * 300, x.order(0, 0));
    script(x, "all 1;give;all 1;give;");
    // c is given now: behind y's dive the cut is past.
    CHECK.due("none is left up to the cut", 0, x.order(0, 0));
    CHECK.due("the least row", 0, x.order(0, 3));
    script(x, "all 1;give;");
    CHECK.due("of all", 14 * 300, x.order(0, 0));
    CHECK.due("of all", 20 * 300, x.order(1, 0));
    // A law that holds b back to the end; then one that no order obeys.
    DropTwo y = meet("rounds 4 drop 0;" + THREE + "list x d c a b;list y d c a b;" + cut
        + "law not group = 2 or round = 4;");
    CHECK.due("by the law", (1 + 7) * 300, y.order(0, 0));
    CHECK.due("by the law", 2, y.order(0, 2));
    CHECK.due("by the law", 1, y.order(0, 4));
    DropTwo z = meet("rounds 4 drop 0;" + THREE + "list x d c a b;list y d c a b;" + cut
        + "law not group = 4 or round > 1;");
    CHECK.due("the one at the board breaks it", -1, z.order(0, 0));
    CHECK.due("the one at the board breaks it", -1, z.order(0, 1));
    CHECK.due("ahead of its turn", 20 * 300, z.order(1, 0));
    CHECK.due("ahead of its turn", 0, z.order(1, 1));
    script(z, "all 1;give;fail;give;fail;give;fail;give;fail;give;fail;give;fail;give;fail;give;");
    CHECK.due("none is left, but it does not obey", -1, z.order(0, 0));
  }

  private static final String DRAWS =
      "rounds 1 drop 0;judge land 1;dive fa group 1 degree 20;diver ann land 1;diver bob land 1;"
          + "list ann fa;list bob fa;";

  private static void winning() {
    // From 0 on: 12345, 628841, 621889, 953857: draws of 5: 0, 1, 4, 2.
    DropTwo x = meet(DRAWS);
    CHECK.due("8 and 9", 0, x.wins(0, 1, 0));
    CHECK.due("8 and 9", 1, x.wins(0, 1, 1));
    CHECK.due("12 and 10, too", 1, x.wins(0, 2, 0));
    CHECK.due("12 and 10, too", 1, x.wins(0, 2, 1));
    CHECK.due("as it was", 0, x.board(0));
    CHECK.due("as it was", -1, x.points(0, 1));
    CHECK.due("no act", 0, x.look(7));
    CHECK.due("no such seed", -1, x.wins(-1, 1, 0));
    CHECK.due("no such seed", -1, x.wins(1000000, 1, 0));
    CHECK.due("the last seed", 1, x.wins(999999, 1, 0) + x.wins(999999, 1, 1));
    CHECK.due("no such n", -1, x.wins(0, 0, 0));
    CHECK.due("no such n", -1, x.wins(0, 41, 0));
    CHECK.isTrue("forty", x.wins(0, 40, 0) + x.wins(0, 40, 1) >= 40);
    CHECK.due("no such one", -1, x.wins(0, 1, 2));
    CHECK.due("no such one", -1, x.wins(0, 1, -1));
    // FORM 1 and 0: below 0 is 0, so both have 0 in the first run (1 less 2, 0 less 1).
    DropTwo y = meet(DRAWS + "form ann 1 0 0 0 0 0;form bob 0 0 0 0 0 0;");
    CHECK.due("like totals are both first", 1, y.wins(0, 1, 0));
    CHECK.due("like totals are both first", 1, y.wins(0, 1, 1));
    DropTwo least = meet(DRAWS + "form ann 0 0 0 0 0 0;form bob 2 0 0 0 0 0;");
    CHECK.due("0 at least: 0 and 1", 0, least.wins(0, 1, 0));
    CHECK.due("0 at least: 0 and 1", 1, least.wins(0, 1, 1));
    DropTwo z = meet(DRAWS + "form ann 20 0 0 0 0 0;form bob 20 0 0 0 0 0;");
    CHECK.due("twenty at most: 18 and 19", 0, z.wins(0, 1, 0));
    CHECK.due("twenty at most: 20 and 20", 1, z.wins(0, 2, 0));
    CHECK.due("twenty at most: 20 and 20", 2, z.wins(0, 2, 1));
  }

  private static void winningFromTheBoard() {
    // The dive at the board begins anew in each run: no cap, no balk, not failed.
    DropTwo x = meet(DRAWS);
    script(x, "cap 0;balk;balk;");
    CHECK.due("8 and 9", 0, x.wins(0, 1, 0));
    CHECK.due("12 and 10", 1, x.wins(0, 2, 0));
    CHECK.due("still failed", 1, x.board(8));
    script(x, "give;");
    // bob alone draws now: 8, then 9.
    CHECK.due("bob", 2, x.wins(0, 2, 1));
    CHECK.due("ann", 0, x.wins(0, 2, 0));
    script(x, "all 0;give;");
    CHECK.due("over: like ones", 7, x.wins(5, 7, 0));
    CHECK.due("over: like ones", 7, x.wins(5, 7, 1));
    DropTwo y = meet(DRAWS);
    script(y, "out bob;");
    CHECK.due("who is in is ahead", 3, y.wins(1, 3, 0));
    CHECK.due("who is out is not", 0, y.wins(1, 3, 1));
    script(y, "out ann;");
    CHECK.due("all are out", 3, y.wins(1, 3, 1));
    // The last one of 36 dives alone makes one win.
    StringBuilder full = new StringBuilder("rounds 6 drop 0;judge land 1;");
    for (int d = 0; d < 5; d++) {
      full.append("dive ").append((char) ('a' + d)).append(" group 1 degree 10;");
    }
    full.append("dive f group 6 degree 60;dive g group 2 degree 10;");
    for (int e = 0; e < 6; e++) {
      char name = (char) ('u' + e);
      full.append("diver ").append(name).append(" land 1;list ").append(name).append(" a b c d e ")
          .append(e == 5 ? 'f' : 'g').append(";form ").append(name).append(" 0 0 0 0 0 20;");
    }
    DropTwo w = meet(full.toString());
    CHECK.due("the last dive", 5, w.wins(77, 5, 5));
    CHECK.due("the others", 0, w.wins(77, 5, 0));
    // Judges by numbers, whatever their sorts: draws 0 1 4 make 8, 9, 12 of a pair.
    DropTwo z = meet("rounds 1 drop 0;judge land 1 together;judge land 1;judge land 1 first;"
        + "judge land 1 second;dive fa group 1 degree 20;pair a land 1;diver b land 1;"
        + "list a fa;list b fa;");
    // a has 29 by 3, cut in hundredths to 2900; b draws 2 then: 10, that is 3000.
    CHECK.due("a", 0, z.wins(0, 1, 0));
    CHECK.due("b", 1, z.wins(0, 1, 1));
  }
}
