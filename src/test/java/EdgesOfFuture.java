/** Promises 48 to 51: what is left by form, who would go on, the best order, runs that are drawn. */
final class EdgesOfFuture {
  private static final String FOUR = EdgesOfRounds.FOUR;
  /** By form fa has 10 * 300 = 3000, ba 8 * 450 = 3600, re 9 * 375 = 3375, tw 6 * 600 = 3600. */
  private static final String RACE =
      "rounds 3 drop 0;judge land 1;dive fa group 1 degree 20;dive ba group 2 degree 30;"
          + "dive re group 3 degree 25;dive tw group 4 degree 40;diver ann land 1;diver bob land 2;"
          + "list ann fa ba re;list bob ba re fa;";
  private static final int FA = 3000;
  private static final int BA = 3600;
  private static final int RE = 3375;
  private static final int TW = 3600;

  private final Edges edges;

  EdgesOfFuture(Edges edges) {
    this.edges = edges;
  }

  void all() {
    edges.says(48, "An ENTRANT's TOTAL and POINTS BY FORM of all DIVES of its LIST that were not given.", this::expected);
    edges.says(48, "NONE: it is not IN, others.", this::expectedNone);
    edges.says(49, "Whether an ENTRANT would go on at the next CUT that comes,", this::goes);
    edges.says(49, "if all DIVES up to its ROUND that were not given had POINTS BY FORM: 1, 0.", this::goesByForm);
    edges.says(49, "NONE: it is not IN,", this::goesNotIn);
    edges.says(49, "no CUT comes,", this::goesWithoutCut);
    edges.says(49, "others.", this::goesOthers);
    edges.says(50, "Of all orders of those DIVES of an ENTRANT's LIST that were not given", this::order);
    edges.says(50, "(one that is at THE BOARD stays where it is, too)", this::orderAtTheBoard);
    edges.says(50, "by which the whole LIST OBEYS,", this::orderObeys);
    edges.says(50, "that with the most POINTS BY FORM of ROUNDS not given up to that of the next CUT that comes",
        this::orderAheadOfCut);
    edges.says(50, "(of all, if none does),", this::orderWithoutCut);
    edges.says(50, "the first such (as rows of DIVES, ROUND by ROUND):", this::firstOrder);
    edges.says(50, "what 0 these POINTS (0, if none is left),", this::orderOfNone);
    edges.says(50, "1 .. the DIVE of that ROUND then (of those given, too).", this::orderDives);
    edges.says(50, "NONE: there is no such order,", this::noOrder);
    edges.says(50, "it is not IN, others.", this::orderOthers);
    edges.says(51, "In how many of n (1 .. 40) runs an ENTRANT has RANK 1 at their ends,", this::wins);
    edges.says(51, "x being a seed (0 .. 999999) ahead of the first one, and going on:", this::winsGoOn);
    edges.says(51, "each from THE BOARD on (that DIVE from its begin on),", this::winsFromTheBoard);
    edges.says(51, "each of its JUDGES by numbers awards BY FORM and a DRAW of 5 more, and 2 less,", this::winsByJudges);
    edges.says(51, "0 .. 20.", this::winsEnds);
    edges.says(51, "NONE for others.", this::winsOthers);
  }

  private DropTwo race(String behind, String acts) {
    DropTwo x = edges.meet(RACE + behind);
    edges.act(x, acts);
    return x;
  }

  private void expected() {
    edges.due("all by form", FA + BA + RE, race("", "").expected(0));
    edges.due("marked, not given", FA + BA + RE, race("", "all 20;cap 3;balk;").expected(0));
    edges.due("one was given", 1500 + BA + RE, race("", "all 5;give;").expected(0));
    edges.due("one failed", RE + FA, race("", "fail;give;fail;give;").expected(1));
    DropTwo x = race("", "");
    edges.due("change", 2, x.change(0, 3, 3));
    edges.due("the list as it is now", FA + BA + TW, x.expected(0));
    edges.act(x, "all 1;give;".repeat(5));
    edges.due("the last one is left", 300 + 450 + TW - TW + 600, x.expected(0));
    edges.due("the last one is left", 450 + 375 + FA, x.expected(1));
    edges.act(x, "all 1;give;");
    edges.due("over: its total", 450 + 375 + 300, x.expected(1));
    // A cut anew takes what was given ahead of it; cuts to come take nothing.
    DropTwo anew = race("cut 1 most 2 anew;cut 2 most 1 anew;", "all 20;give;all 19;give;");
    edges.due("from the cut anew on", BA + RE, anew.expected(0));
    edges.due("with all that is left", 6000 + BA + RE, race("cut 1 most 1 anew;", "all 20;give;").expected(0));
  }

  private void expectedNone() {
    DropTwo x = race("cut 1 most 1;", "all 5;give;fail;give;");
    edges.due("cut", -1, x.expected(1));
    edges.beyond("expected", 0, 1, -1, x::expected);
    edges.act(x, "out ann;");
    edges.due("withdrawn", -1, x.expected(0));
    edges.due("without a meet", -1, new DropTwo().expected(0));
  }

  private DropTwo four(String behind, String acts) {
    DropTwo x = edges.meet(FOUR + behind);
    edges.act(x, acts);
    return x;
  }

  private void goers(DropTwo x, int... due) {
    for (int entrant = 0; entrant < due.length; entrant++) {
      edges.due("goes(" + entrant + ")", due[entrant], x.goes(entrant));
    }
  }

  /** By form a 5, b 7, c 6, d 4 in the first round; 9 0 0 0 in the second one, 0 0 0 20 in the third one. */
  private static final String FORMS =
      "form a 5 9 0 0 0 0;form b 7 0 0 0 0 0;form c 6 0 0 0 0 0;form d 4 0 20 0 0 0;";

  private void goes() {
    goers(four(FORMS + "cut 1 most 1;", ""), 0, 1, 0, 0);
    goers(four(FORMS + "cut 1 most 2;", ""), 0, 1, 1, 0);
    goers(four(FORMS + "cut 1 most 3;", ""), 1, 1, 1, 0);
    goers(four(FORMS + "cut 1 most 4;", ""), 1, 1, 1, 1);
    goers(four(FORMS + "cut 1 most 5;", ""), 1, 1, 1, 1);
    // Who has as much as the last one goes on, too.
    goers(four("cut 1 most 1;", ""), 1, 1, 1, 1);
    goers(four(FORMS + "form c 5 0 0 0 0 0;cut 1 most 2;", ""), 1, 1, 1, 0);
    // Of who is in alone.
    goers(four(FORMS + "cut 1 most 1;", "out b;"), 0, -1, 1, 0);
    // The next one, not one behind it; then that.
    DropTwo x = four(FORMS + "cut 1 most 3;cut 2 most 1;", "");
    goers(x, 1, 1, 1, 0);
    edges.act(x, "all 5;give;all 7;give;all 6;give;all 4;");
    goers(x, 1, 1, 1, 0);
    edges.act(x, "give;");
    goers(x, 1, 0, 0, -1);
  }

  private void goesByForm() {
    // What was given counts as it was, what failed as 0.
    goers(four(FORMS + "cut 1 most 2;", "all 20;give;"), 1, 1, 0, 0);
    goers(four(FORMS + "cut 1 most 2;", "all 5;give;fail;give;"), 1, 0, 1, 0);
    goers(four(FORMS + "cut 1 most 1;", "all 5;give;all 7;give;all 6;give;"), 0, 1, 0, 0);
    // What stands at the board was not given.
    goers(four(FORMS + "cut 1 most 1;", "all 20;"), 0, 1, 0, 0);
    goers(four(FORMS + "cut 1 most 2;", "all 0;give;cap 0;balk;"), 0, 1, 1, 0);
    goers(four(FORMS + "cut 1 most 2;", "all 0;give;fail;"), 0, 1, 1, 0);
    // Up to its round: a has 5 and 9, d has its 20 behind it.
    goers(four(FORMS + "cut 2 most 1;", ""), 1, 0, 0, 0);
    goers(four(FORMS + "cut 1 most 1;", ""), 0, 1, 0, 0);
    // Totals as they are now, anew or not: 14 to 20, then 9 to 0.
    goers(four(FORMS + "cut 1 most 2;cut 2 most 1;", "all 5;give;all 20;give;all 0;give;all 0;give;"), 0, 1, -1, -1);
    goers(four(FORMS + "cut 1 most 2 anew;cut 2 most 1;", "all 5;give;all 20;give;all 0;give;all 0;give;"),
        1, 0, -1, -1);
    DropTwo x = four(FORMS + "dive tw group 2 degree 20;cut 1 most 1;", "");
    edges.due("change", 0, x.change(1, 1, 3));
    goers(x, 0, 0, 1, 0);
  }

  private void goesNotIn() {
    DropTwo x = four(FORMS + "cut 1 most 3;cut 2 most 1;", "all 5;give;all 7;give;all 6;give;all 4;give;out a;");
    edges.due("withdrawn", -1, x.goes(0));
    edges.due("cut", -1, x.goes(3));
    edges.due("in", 1, x.goes(1));
  }

  private void goesWithoutCut() {
    goers(four("", ""), -1, -1, -1, -1);
    DropTwo x = four("cut 1 most 5;", "all 5;give;".repeat(3) + "all 5;");
    edges.due("it still comes", 1, x.goes(0));
    edges.act(x, "give;");
    goers(x, -1, -1, -1, -1);
    edges.act(x, "all 5;give;".repeat(8));
    edges.due("over", 1, x.look(8));
    goers(x, -1, -1, -1, -1);
  }

  private void goesOthers() {
    DropTwo x = four("cut 1 most 5;", "");
    edges.beyond("goes", 0, 3, -1, x::goes);
    edges.due("without a meet", -1, new DropTwo().goes(0));
  }

  private void row(DropTwo x, int entrant, int points, int... dives) {
    edges.due("order(" + entrant + ", 0)", points, x.order(entrant, 0));
    for (int round = 1; round <= dives.length; round++) {
      edges.due("order(" + entrant + ", " + round + ")", dives[round - 1], x.order(entrant, round));
    }
  }

  private void order() {
    DropTwo x = race("cut 2 most 1;", "");
    // bob has ba re fa, and is not at the board: ba and re ahead of the cut.
    row(x, 1, BA + RE, 1, 2, 0);
    edges.stays("order", x, () -> row(x, 1, BA + RE, 1, 2, 0));
    // With tw for re: ba and tw.
    edges.due("change", 2, x.change(1, 2, 3));
    row(x, 1, BA + TW, 1, 3, 0);
    // Those that were given stay: bob's fa in the first round.
    DropTwo given = race("cut 2 most 1;", "");
    edges.due("change", 0, given.change(1, 3, 3));
    edges.due("change", 1, given.change(1, 1, 0));
    edges.act(given, "all 5;give;all 5;give;");
    // fa, then one of re, tw: tw has more.
    row(given, 1, TW, 0, 3, 2);
    // What was given stays, though it failed or had 0 points.
    row(race("cut 2 most 1;", "fail;give;"), 0, BA, 0, 1, 2);
    row(race("cut 2 most 1;", "fail;give;fail;give;"), 1, RE, 1, 2, 0);
    row(race("cut 2 most 1;", "all 0;give;all 0;give;all 0;give;"), 1, RE, 1, 2, 0);
    // By its own form: ba and re have 0 and 0, fa 3000.
    row(race("form bob 10 0 0 0 0 0;cut 1 most 1;", ""), 1, FA, 0, 1, 2);
  }

  private void orderAtTheBoard() {
    // ann has fa at the board, which is worth less than ba.
    row(race("cut 1 most 1;", ""), 0, FA, 0, 1, 2);
    row(race("cut 1 most 1;", ""), 1, BA, 1, 0, 2);
    // In the second round ba stays, though it may be in the third one alone; ahead of that it may go there.
    DropTwo x = race("law not group=2 or round=3;", "all 5;give;");
    row(x, 0, RE + BA, 0, 2, 1);
    edges.act(x, "all 5;give;");
    row(x, 0, -1, -1, -1, -1);
    // Its points count though it stays, whatever stands there.
    row(race("cut 1 most 1;", "cap 0;balk;fail;"), 0, FA, 0, 1, 2);
    // Out, it stays no more; the next one's does then.
    DropTwo out = race("cut 1 most 1;", "out ann;");
    row(out, 1, BA, 1, 0, 2);
    DropTwo least = edges.meet(RACE.replace("list bob ba re fa", "list bob fa ba re") + "cut 1 most 1;");
    row(least, 1, BA, 1, 0, 2);
    edges.act(least, "all 5;give;");
    row(least, 1, FA, 0, 1, 2);
  }

  private void orderObeys() {
    // ba in the last round alone: bob's list does not obey as it stands.
    row(race("law not group=2 or round=3;", ""), 1, FA + BA + RE, 0, 2, 1);
    row(race("law not group=2 or round=3;cut 1 most 1;", ""), 1, RE, 2, 0, 1);
    // The rounds given are looked at, too: ann's fa with degree 20 in the first one.
    row(race("law round>1 or degree>20;", "all 5;give;"), 0, -1, -1, -1, -1);
    // And those behind the cut: re only in the last round, though it would be good ahead of it.
    row(race("law not group=3 or round=3;cut 2 most 1;", ""), 1, FA + BA, 0, 1, 2);
    row(race("law sum<51 or round=3;cut 2 most 1;", ""), 1, BA + FA, 0, 1, 2);
  }

  private void orderAheadOfCut() {
    row(race("cut 1 most 1;", ""), 1, BA, 1, 0, 2);
    row(race("cut 2 most 1;", ""), 1, BA + RE, 1, 2, 0);
    // The next one of two.
    DropTwo x = race("cut 1 most 2;cut 2 most 1;", "");
    row(x, 1, BA, 1, 0, 2);
    edges.act(x, "all 5;give;all 5;");
    row(x, 1, BA, 1, 0, 2);
    edges.act(x, "give;");
    // ann and bob had like awards, bob's ba is greater: ann, then bob. bob's round 2: re.
    row(x, 1, RE, 1, 2, 0);
    // Of rounds not given alone: ann's first one was given, its second one is left of two.
    row(race("cut 2 most 1;", "all 20;give;"), 0, BA, 0, 1, 2);
  }

  private void orderWithoutCut() {
    row(race("", ""), 1, FA + BA + RE, 0, 1, 2);
    DropTwo x = race("cut 1 most 2;", "all 5;give;all 5;give;");
    edges.due("behind the last cut", FA + RE, x.order(1, 0));
    edges.due("ba was given", 1, x.order(1, 1));
    edges.due("the first such", 0, x.order(1, 2));
    edges.due("the first such", 2, x.order(1, 3));
  }

  private void firstOrder() {
    // ba and tw have like points: ahead of the cut behind the first round ba is the first such.
    DropTwo x = edges.meet(RACE.replace("list bob ba re fa", "list bob tw re ba") + "cut 1 most 1;");
    row(x, 1, BA, 1, 2, 3);
    DropTwo two = edges.meet(RACE.replace("list bob ba re fa", "list bob tw re ba") + "cut 2 most 1;");
    row(two, 1, BA + TW, 1, 3, 2);
    DropTwo all = edges.meet(RACE.replace("list bob ba re fa", "list bob tw re ba"));
    row(all, 1, BA + TW + RE, 1, 2, 3);
    DropTwo zero = race("form bob 0 0 0 0 0 0;cut 2 most 1;", "");
    row(zero, 1, 0, 0, 1, 2);
  }

  private void orderOfNone() {
    DropTwo x = race("", "all 5;give;".repeat(6));
    row(x, 0, 0, 0, 1, 2);
    row(x, 1, 0, 1, 2, 0);
    // None is left up to the cut: 0, by the first of the orders.
    DropTwo cut = edges.meet(RACE.replace("list ann fa ba re", "list ann fa re ba") + "cut 1 most 1;");
    edges.act(cut, "all 5;give;");
    row(cut, 0, 0, 0, 1, 2);
    // None is left, and the list does not obey: there is no such order.
    row(race("law not group=2;", "all 5;give;".repeat(6)), 0, -1, -1, -1, -1);
  }

  private void orderDives() {
    DropTwo x = race("", "all 5;give;all 5;give;all 5;give;");
    row(x, 0, RE, 0, 1, 2);
    row(x, 1, RE + FA, 1, 2, 0);
    DropTwo six = edges.meet(EdgesOfMeets.rounds(6, 0, ""));
    row(six, 0, 6 * 3000, 0, 1, 2, 3, 4, 5);
    edges.act(six, "all 5;give;".repeat(5));
    row(six, 0, 3000, 0, 1, 2, 3, 4, 5);
    DropTwo one = edges.meet(EdgesOfMeets.ONE);
    row(one, 0, 3000, 0);
  }

  private void noOrder() {
    row(race("law round<3;", ""), 1, -1, -1, -1, -1);
    row(race("law degree>20;", ""), 1, -1, -1, -1, -1);
    // fa in the second round alone: ann has it at the board in the first one, bob may.
    DropTwo x = race("law not group=1 or round=2;", "");
    row(x, 0, -1, -1, -1, -1);
    row(x, 1, FA + BA + RE, 1, 0, 2);
  }

  private void orderOthers() {
    DropTwo x = race("cut 1 most 1;", "");
    edges.beyond("order", 0, 1, -1, entrant -> x.order(entrant, 0));
    edges.beyond("order", 0, 1, -1, entrant -> x.order(entrant, 1));
    edges.beyond("order's what", 0, 3, -1, what -> x.order(1, what));
    edges.act(x, "all 1;give;all 9;give;");
    edges.due("cut", -1, x.order(0, 0));
    edges.due("cut", -1, x.order(0, 1));
    edges.act(x, "out bob;");
    edges.due("withdrawn", -1, x.order(1, 0));
    edges.due("without a meet", -1, new DropTwo().order(0, 0));
  }

  private static long next(long x) {
    return (x * 1103 + 12345) % 1000003;
  }

  private static String duel(int judges, int drop) {
    return EdgesOfOutlook.duel(judges, drop);
  }

  private void wins() {
    // By form 10 each, two more or less at most: 20 is never reached, 13 neither, 12 is.
    DropTwo x = edges.meet(duel(1, 0));
    edges.act(x, "all 13;give;");
    for (int n = 1; n <= 40; n++) {
      edges.due("ann, whatever is drawn", n, x.wins(7, n, 0));
      edges.due("bob, whatever is drawn", 0, x.wins(7, n, 1));
    }
    // Like totals are both of rank 1.
    DropTwo over = edges.meet(duel(1, 0));
    edges.act(over, "all 5;give;all 5;give;");
    edges.due("over", 40, over.wins(0, 40, 0));
    edges.due("over", 40, over.wins(0, 40, 1));
    DropTwo lost = edges.meet(duel(1, 0));
    edges.act(lost, "all 5;give;all 6;give;");
    edges.due("over", 0, lost.wins(0, 40, 0));
    edges.due("over", 1, lost.wins(0, 1, 1));
    // Who is out is behind who is in; with nobody in the total counts.
    DropTwo out = edges.meet(duel(1, 0));
    edges.act(out, "all 20;give;out ann;");
    edges.due("withdrawn", 0, out.wins(0, 40, 0));
    edges.due("who is in", 40, out.wins(0, 40, 1));
    edges.act(out, "out bob;");
    edges.due("nobody is in", 40, out.wins(0, 40, 0));
    edges.due("nobody is in", 0, out.wins(0, 40, 1));
    edges.stays("wins", x, () -> x.wins(1, 40, 0));
    // At their ends: the cut on the way throws ann out, though she leads by far behind one dive.
    DropTwo cut = edges.meet(FOUR + "cut 1 most 1;cut 2 most 1;form a 0 20 20 0 0 0;form b 8 0 0 0 0 0;"
        + "form c 0 0 0 0 0 0;form d 0 0 0 0 0 0;");
    edges.due("a is cut behind the first round", 0, cut.wins(3, 40, 0));
    edges.due("b alone goes on", 40, cut.wins(3, 40, 1));
    DropTwo none = edges.meet(FOUR + "form a 0 20 20 0 0 0;form b 8 0 0 0 0 0;"
        + "form c 0 0 0 0 0 0;form d 0 0 0 0 0 0;");
    edges.due("without cuts a has more", 40, none.wins(3, 40, 0));
  }

  /** Of a duel of so many judges (all kept) by the document's words: both wins behind n runs. */
  private static int[] duelWins(long seed, int n, int judges, int form, int otherForm) {
    long x = seed;
    int[] wins = new int[2];
    for (int run = 0; run < n; run++) {
      long[] sums = new long[2];
      for (int diver = 0; diver < 2; diver++) {
        for (int judge = 0; judge < judges; judge++) {
          x = next(x);
          long award = (diver == 0 ? form : otherForm) + x % 5 - 2;
          sums[diver] += Math.max(0, Math.min(20, award));
        }
        sums[diver] = sums[diver] * 300 / judges;
      }
      wins[0] += sums[0] >= sums[1] ? 1 : 0;
      wins[1] += sums[1] >= sums[0] ? 1 : 0;
    }
    return wins;
  }

  private void duels(DropTwo x, int judges, int form, int otherForm) {
    for (int seed : new int[] {0, 1, 12345, 500000, 999998, 999999}) {
      for (int n : new int[] {1, 2, 3, 40}) {
        int[] due = duelWins(seed, n, judges, form, otherForm);
        edges.due("wins(" + seed + ", " + n + ", 0)", due[0], x.wins(seed, n, 0));
        edges.due("wins(" + seed + ", " + n + ", 1)", due[1], x.wins(seed, n, 1));
      }
    }
  }

  private void winsGoOn() {
    DropTwo x = edges.meet(duel(1, 0));
    duels(x, 1, 10, 10);
    // Each run goes on where the one ahead ended; each call begins at its seed.
    int first = x.wins(999999, 1, 0);
    long behind = next(next(999999));
    int second = x.wins((int) behind, 1, 0);
    edges.due("two runs", first + second, x.wins(999999, 2, 0));
    edges.due("the same again", first + second, x.wins(999999, 2, 0));
    edges.due("another entrant begins at the seed, too", duelWins(999999, 1, 1, 10, 10)[1], x.wins(999999, 1, 1));
  }

  private void winsFromTheBoard() {
    // Whatever stands at the board: its dive is from its begin on in each run.
    for (String acts : new String[] {"all 20;", "cap 0;", "balk;", "fail;", "cap 3;balk;all 0;"}) {
      DropTwo x = edges.meet(duel(1, 0));
      edges.act(x, acts);
      edges.due("the first run behind " + acts, duelWins(5, 1, 1, 10, 10)[0], x.wins(5, 1, 0));
      edges.due("forty runs behind " + acts, duelWins(5, 40, 1, 10, 10)[0], x.wins(5, 40, 0));
      edges.due("forty runs behind " + acts, duelWins(5, 40, 1, 10, 10)[1], x.wins(5, 40, 1));
    }
    DropTwo pair = edges.meet("rounds 1 drop 0;judge land 1 first;judge land 1 second;judge land 1 together;"
        + "dive fa group 1 degree 20;pair duo land 1;pair mix land 1;list duo fa;list mix fa;");
    edges.act(pair, "half first;half second;balk;");
    edges.due("no half has failed", duelWins(5, 40, 3, 10, 10)[0], pair.wins(5, 40, 0));
    // What was given ahead of it stays: from bob's dive on, ann at 11.
    DropTwo given = edges.meet(duel(1, 0));
    edges.act(given, "all 11;give;all 0;");
    long x = 5;
    int due = 0;
    for (int run = 0; run < 40; run++) {
      x = next(x);
      due += 10 + x % 5 - 2 >= 11 ? 1 : 0;
    }
    edges.due("bob from his dive on", due, given.wins(5, 40, 1));
  }

  private void winsByJudges() {
    duels(edges.meet(duel(2, 0)), 2, 10, 10);
    duels(edges.meet(duel(5, 0) + "form bob 11 0 0 0 0 0;"), 5, 10, 11);
    // By degree 30 the form is 8, two less; of both alike.
    DropTwo x = edges.meet(duel(1, 0).replace("degree 20", "degree 30") + "form ann 12 0 0 0 0 0;");
    edges.due("10 to 8", duelWins(77, 40, 1, 10, 8)[0], x.wins(77, 40, 0));
    edges.due("10 to 8", duelWins(77, 40, 1, 10, 8)[1], x.wins(77, 40, 1));
    // Of three judges one is kept: of the draws in the order of their numbers, the judge of pairs aside.
    DropTwo three = edges.meet(duel(3, 1).replace("drop 1;", "drop 1;judge land 1 first;"));
    for (int seed = 0; seed < 40; seed++) {
      long drawn = seed;
      long[] middle = new long[2];
      for (int diver = 0; diver < 2; diver++) {
        long least = 99;
        long most = -99;
        long sum = 0;
        for (int judge = 0; judge < 3; judge++) {
          drawn = next(drawn);
          least = Math.min(least, drawn % 5);
          most = Math.max(most, drawn % 5);
          sum += drawn % 5;
        }
        middle[diver] = sum - least - most;
      }
      edges.due("seed " + seed, middle[0] >= middle[1] ? 1 : 0, three.wins(seed, 1, 0));
      edges.due("seed " + seed, middle[1] >= middle[0] ? 1 : 0, three.wins(seed, 1, 1));
    }
    pairsByNumbers();
  }

  /** By numbers, not sort by sort: drop 1 trims the three of first alone, so it tells whose draw was whose. */
  private void pairsByNumbers() {
    int[] sorts = {1, 3, 1, 2, 1};
    DropTwo x = edges.meet("rounds 1 drop 1;judge land 1 first;judge land 1 together;judge land 1 first;"
        + "judge land 1 second;judge land 1 first;dive fa group 1 degree 20;pair duo land 1;pair mix land 1;"
        + "list duo fa;list mix fa;");
    for (int seed = 100; seed < 140; seed++) {
      long drawn = seed;
      long[] points = new long[2];
      for (int pair = 0; pair < 2; pair++) {
        long least = 99;
        long most = -99;
        long sum = 0;
        for (int sort : sorts) {
          drawn = next(drawn);
          long award = 10 + drawn % 5 - 2;
          sum += award;
          if (sort == 1) {
            least = Math.min(least, award);
            most = Math.max(most, award);
          }
        }
        points[pair] = (sum - least - most) * 300 / 3;
      }
      edges.due("seed " + seed, points[0] >= points[1] ? 1 : 0, x.wins(seed, 1, 0));
      edges.due("seed " + seed, points[1] >= points[0] ? 1 : 0, x.wins(seed, 1, 1));
    }
  }

  private void winsEnds() {
    // 0 and a draw of 0 or 1 is 0, not below; 20 and a draw of 3 or 4 is 20, not above.
    duels(edges.meet(duel(1, 0) + "form ann 0 0 0 0 0 0;form bob 0 0 0 0 0 0;"), 1, 0, 0);
    duels(edges.meet(duel(1, 0) + "form ann 20 0 0 0 0 0;form bob 20 0 0 0 0 0;"), 1, 20, 20);
    duels(edges.meet(duel(3, 0) + "form ann 1 0 0 0 0 0;form bob 0 0 0 0 0 0;"), 3, 1, 0);
    duels(edges.meet(duel(3, 0) + "form ann 19 0 0 0 0 0;form bob 20 0 0 0 0 0;"), 3, 19, 20);
  }

  private void winsOthers() {
    DropTwo x = edges.meet(duel(1, 0));
    edges.beyond("wins' seed", 0, 999999, -1, seed -> x.wins(seed, 1, 0));
    edges.beyond("wins' n", 1, 40, -1, n -> x.wins(0, n, 0));
    edges.beyond("wins' entrant", 0, 1, -1, entrant -> x.wins(0, 1, entrant));
    edges.isTrue("the greatest seed", x.wins(999999, 40, 1) >= 0);
    edges.due("without a meet", -1, new DropTwo().wins(0, 1, 0));
    DropTwo over = edges.meet(duel(1, 0));
    edges.act(over, "all 5;give;all 5;give;");
    edges.due("over, none of n", -1, over.wins(0, 0, 0));
    edges.due("over, none of n", -1, over.wins(0, 41, 0));
    edges.due("over, no seed", -1, over.wins(-1, 1, 0));
  }
}
