/** Promises 43 to 47: bias, like awards, who is dropped, other panels. */
final class EdgesOfPanels {
  private static final String BOTH = EdgesOfScripts.BOTH;
  /** Judges of lands 1 2 1 3; ann of land 1, bob of land 2, cy of land 4, one dive each. */
  private static final String LANDS =
      "rounds 1 drop 1;judge land 1;judge land 2;judge land 1;judge land 3;dive fa group 1 degree 20;"
          + "diver ann land 1;diver bob land 2;diver cy land 4;list ann fa;list bob fa;list cy fa;";

  private final Edges edges;

  EdgesOfPanels(Edges edges) {
    this.edges = edges;
  }

  void all() {
    edges.says(43, "Of all DIVES that were given, did not FAIL, and that a JUDGE judged what 0 how many are"
        + " of ENTRANTS of its own LAND,", this::biasCounts);
    edges.says(43, "1 by how much its AWARDS are above the MIDDLE ones in these, together,", this::biasAbove);
    edges.says(43, "2, 3 likewise of other LANDS.", this::biasOfOthers);
    edges.says(43, "MIDDLE: of AWARDS of its SORT in that DIVE, the least first,"
        + " that at (how many they are, less 1) by 2, cut.", this::middle);
    edges.says(43, "NOTHING for others.", this::biasNone);
    edges.says(44, "Of how many DIVES that were given and did not FAIL two JUDGES marked like AWARDS.", this::alike);
    edges.says(44, "NONE: alike ones, others.", this::alikeNone);
    edges.says(45, "Of how many DIVES that were given and did not FAIL a JUDGE was DROPPED among the first (what 0),"
        + " the last ones (1), KEPT (2).", this::dropped);
    edges.says(45, "NONE for others.", this::droppedNone);
    edges.says(46, "An ENTRANT's TOTAL, if a JUDGE had not been there (CUTS stay).", this::without);
    edges.says(46, "-2: it is the only one of its SORT, and judges it (ahead of any DIVE, too).", this::withoutTheOnlyOne);
    edges.says(46, "NONE for others.", this::withoutNone);
    edges.says(47, "An ENTRANT's TOTAL, if DROP were another one (0 .. 3; CUTS stay).", this::asDrop);
    edges.says(47, "NONE for others.", this::asDropNone);
  }

  private DropTwo lands(String acts) {
    DropTwo x = edges.meet(LANDS);
    edges.act(x, acts);
    return x;
  }

  private void biasCounts() {
    DropTwo none = lands("");
    edges.due("none given", 0, none.bias(0, 0));
    edges.due("marked, not given", 0, lands("all 5;").bias(0, 0));
    DropTwo x = lands("all 5;give;all 5;give;all 5;give;");
    int[] own = {1, 1, 1, 0};
    for (int judge = 0; judge < 4; judge++) {
      edges.due("own of " + judge, own[judge], x.bias(judge, 0));
    }
    edges.due("it failed", 0, lands("fail;give;").bias(0, 0));
    // A judge of pairs judged no dive of a diver of its land.
    DropTwo both = edges.meet(BOTH.replace("judge land 2 first", "judge land 1 first"));
    edges.act(both, "all 5;give;all 5;give;");
    edges.due("it judged none", 0, both.bias(1, 0));
    edges.due("the pair", 1, both.bias(1, 2));
  }

  private void biasAbove() {
    DropTwo x = lands("marks 9 5 7 6;give;marks 0 20 10 10;give;");
    // 5 6 7 9: the middle one is 6. Of bob 0 10 10 20: 10.
    edges.due("above", 3, x.bias(0, 1));
    edges.due("above", 10, x.bias(1, 1));
    edges.due("above", 1, x.bias(2, 1));
    edges.due("none of its land", 0, x.bias(3, 1));
    edges.due("below", -6, lands("marks 0 6 6 6;give;").bias(0, 1));
    edges.due("awards, not what counts", 11, lands("cap 3;balk;marks 20 9 9 9;give;").bias(0, 1));
    // Two dives of its land together.
    DropTwo two = edges.meet("rounds 2 drop 0;judge land 1;judge land 2;judge land 2;dive fa group 1 degree 20;"
        + "dive ba group 1 degree 20;diver ann land 1;list ann fa ba;");
    edges.act(two, "marks 9 5 5;give;marks 0 3 3;give;");
    edges.due("4 and -3", 1, two.bias(0, 1));
    edges.due("two of them", 2, two.bias(0, 0));
  }

  private void biasOfOthers() {
    DropTwo x = lands("marks 9 5 7 6;give;marks 0 20 10 10;give;marks 8 8 9 7;give;");
    int[] counts = {2, 2, 2, 3};
    // Middles 6, 10, 8.
    int[] above = {-10 + 0, -1 + 0, 0 + 1, 0 + 0 - 1};
    for (int judge = 0; judge < 4; judge++) {
      edges.due("others of " + judge, counts[judge], x.bias(judge, 2));
      edges.due("above of " + judge, above[judge], x.bias(judge, 3));
    }
    edges.due("it failed", 0, lands("fail;give;fail;give;").bias(3, 2));
  }

  private void middle() {
    String[] marks = {"5", "9 5", "9 5 7", "9 5 7 6", "9 5 7 6 1"};
    int[] middles = {5, 5, 7, 6, 6};
    for (int judges = 1; judges <= 5; judges++) {
      DropTwo x = edges.meet(EdgesOfAwards.single(judges, 3, 20));
      edges.act(x, "marks " + marks[judges - 1] + ";give;");
      edges.due("of " + judges, x.award(0, 1, 0, 0) - middles[judges - 1], x.bias(0, 1));
    }
    // Of its sort alone: 4 9 of first, 20 of second, 0 of together.
    DropTwo pair = edges.meet("rounds 1 drop 0;judge land 1 first;judge land 1 first;judge land 1 second;"
        + "judge land 1 together;dive fa group 1 degree 20;pair duo land 1;list duo fa;");
    edges.act(pair, "marks 4 9 20 0;give;");
    int[] due = {0, 5, 0, 0};
    for (int judge = 0; judge < 4; judge++) {
      edges.due("of judge " + judge, due[judge], pair.bias(judge, 1));
    }
  }

  private void biasNone() {
    DropTwo x = lands("all 5;give;");
    edges.beyond("bias", 0, 3, DropTwo.NOTHING, judge -> x.bias(judge, 0));
    edges.beyond("bias", 0, 3, DropTwo.NOTHING, judge -> x.bias(judge, 3));
    edges.beyond("bias' what", 0, 3, DropTwo.NOTHING, what -> x.bias(0, what));
    edges.due("without a meet", DropTwo.NOTHING, new DropTwo().bias(0, 1));
  }

  private void alike() {
    DropTwo x = lands("marks 5 5 6 5;give;cap 3;marks 4 5 4 4;give;");
    edges.due("once", 1, x.alike(0, 1));
    edges.due("the other way round", 1, x.alike(1, 0));
    edges.due("not by what counts", 1, x.alike(0, 2));
    edges.due("both", 2, x.alike(0, 3));
    edges.due("never", 0, x.alike(1, 2));
    edges.act(x, "all 7;");
    edges.due("marked, not given", 2, x.alike(0, 3));
    edges.act(x, "fail;give;");
    edges.due("it failed", 2, x.alike(0, 3));
    DropTwo both = edges.meet(BOTH);
    edges.act(both, "all 5;give;all 5;give;");
    edges.due("of unlike dives", 0, both.alike(0, 1));
    edges.due("of unlike sorts of a pair", 1, both.alike(1, 4));
  }

  private void alikeNone() {
    DropTwo x = lands("all 5;give;");
    for (int judge = 0; judge < 4; judge++) {
      edges.due("alike ones", -1, x.alike(judge, judge));
    }
    edges.beyond("alike", 0, 3, -1, judge -> x.alike(judge, 0));
    edges.beyond("alike's other", 0, 3, -1, other -> x.alike(0, other));
    edges.due("no such one twice", -1, x.alike(4, 4));
  }

  private void dropped() {
    DropTwo x = lands("marks 5 9 6 7;give;all 5;give;");
    // 0 first, 1 last; then of like ones 0 first, 3 last.
    int[][] due = {{2, 0, 0}, {0, 1, 1}, {0, 0, 2}, {0, 1, 1}};
    for (int judge = 0; judge < 4; judge++) {
      for (int what = 0; what <= 2; what++) {
        edges.due("dropped(" + judge + ", " + what + ")", due[judge][what], x.dropped(judge, what));
      }
    }
    DropTwo once = lands("marks 5 9 6 7;give;marks 9 5 6 7;give;");
    for (int what = 0; what <= 2; what++) {
      edges.due("first, then last: dropped(0, " + what + ")", what < 2 ? 1 : 0, once.dropped(0, what));
      edges.due("last, then first: dropped(1, " + what + ")", what < 2 ? 1 : 0, once.dropped(1, what));
      edges.due("kept twice: dropped(3, " + what + ")", what < 2 ? 0 : 2, once.dropped(3, what));
    }
    DropTwo last = lands("marks 9 5 6 7;give;");
    int[][] turned = {{0, 1, 0}, {1, 0, 0}, {0, 0, 1}, {0, 0, 1}};
    for (int judge = 0; judge < 4; judge++) {
      for (int what = 0; what <= 2; what++) {
        edges.due("dropped(" + judge + ", " + what + ")", turned[judge][what], last.dropped(judge, what));
      }
    }
    edges.act(x, "all 5;");
    edges.due("marked, not given", 2, x.dropped(0, 0));
    edges.act(x, "fail;give;");
    edges.due("it failed", 2, x.dropped(0, 0));
    DropTwo both = edges.meet(BOTH);
    edges.act(both, "all 5;give;");
    edges.due("it did not judge that", 0, both.dropped(1, 2));
    edges.due("none is dropped of two", 1, both.dropped(0, 2));
  }

  private void droppedNone() {
    DropTwo x = lands("all 5;give;");
    edges.beyond("dropped", 0, 3, -1, judge -> x.dropped(judge, 0));
    edges.beyond("dropped", 0, 3, -1, judge -> x.dropped(judge, 2));
    edges.beyond("dropped's what", 0, 2, -1, what -> x.dropped(0, what));
  }

  private static final String TWO =
      "rounds 2 drop 1;judge land 1;judge land 1;judge land 1;dive fa group 1 degree 20;"
          + "dive ba group 1 degree 20;diver ann land 1;diver bob land 1;list ann fa ba;list bob fa ba;";

  private void without() {
    DropTwo x = edges.meet(TWO);
    edges.due("ahead of any dive", 0, x.without(0, 0));
    edges.act(x, "marks 3 6 9;give;fail;give;marks 0 1 20;give;");
    // Of two none is dropped: 6 9, then 1 20.
    edges.due("without 0", (15 + 21) * 150, x.without(0, 0));
    edges.due("without 1", (12 + 20) * 150, x.without(1, 0));
    edges.due("without 2", (9 + 1) * 150, x.without(2, 0));
    edges.due("what failed", 0, x.without(0, 1));
    edges.due("as it was", (6 + 1) * 300, x.total(0, 0));
    // Of a dive that had 0 points: 0 and 20 are left of 0 0 20.
    DropTwo zero = edges.meet(TWO);
    edges.act(zero, "marks 0 0 20;give;");
    edges.due("nothing", 0, zero.points(0, 1));
    edges.due("without one of them", 10 * 300, zero.without(0, 0));
    DropTwo y = edges.meet(BOTH);
    edges.act(y, "marks 3 9;give;marks 3 6 9;give;");
    edges.due("it judges it not", 6 * 300, y.without(1, 0));
    edges.due("it judges it not", 6 * 450, y.without(0, 1));
    edges.due("one of two is left", 9 * 300, y.without(0, 0));
    // Cuts stay: bob was cut by 5 to 6, though without judge 1 he would have had more.
    DropTwo cut = edges.meet(TWO.replace("drop 1", "drop 0") + "cut 1 most 1 anew;");
    edges.act(cut, "marks 0 18 0;give;marks 5 5 5;give;");
    edges.due("who was cut", 5 * 300, cut.without(1, 1));
    edges.due("who went on begins anew", 0, cut.without(1, 0));
    edges.act(cut, "marks 3 6 9;give;");
    edges.due("from then on", 6 * 300, cut.without(1, 0));
    edges.due("from then on", 15 * 150, cut.without(0, 0));
  }

  private void withoutTheOnlyOne() {
    DropTwo x = edges.meet(BOTH);
    edges.due("of sort 1, ahead of any dive", -2, x.without(1, 1));
    edges.due("of sort 2", -2, x.without(3, 1));
    edges.due("of sort 3", -2, x.without(4, 1));
    edges.due("of divers it judges none", 0, x.without(1, 0));
    edges.due("two of sort 0", 0, x.without(0, 0));
    edges.act(x, "all 5;give;all 5;give;");
    edges.due("behind a dive", -2, x.without(1, 1));
    edges.act(x, "out duo;");
    edges.due("of one who is out", -2, x.without(1, 1));
    DropTwo one = edges.meet(EdgesOfMeets.ONE);
    edges.due("of sort 0", -2, one.without(0, 0));
    edges.act(one, "fail;give;");
    edges.due("though the dive failed", -2, one.without(0, 0));
  }

  private void withoutNone() {
    DropTwo x = edges.meet(BOTH);
    edges.beyond("without", 0, 4, -1, judge -> x.without(judge, 0));
    edges.beyond("without's entrant", 0, 1, -1, entrant -> x.without(0, entrant));
    edges.beyond("without's entrant", 0, 1, -1, entrant -> x.without(1, entrant));
  }

  private void asDrop() {
    DropTwo x = edges.meet(EdgesOfAwards.single(7, 1, 20));
    edges.due("ahead of any dive", 0, x.asDrop(0, 0));
    edges.act(x, "marks 0 1 2 4 8 16 20;give;");
    edges.due("all", 51 * 300 / 7, x.asDrop(0, 0));
    edges.due("as it is", 31 * 300 / 5, x.asDrop(1, 0));
    edges.due("three are left", 14 * 300 / 3, x.asDrop(2, 0));
    edges.due("one is left", 4 * 300, x.asDrop(3, 0));
    edges.due("as it was", 31 * 300 / 5, x.total(0, 0));
    DropTwo zero = edges.meet(TWO);
    edges.act(zero, "marks 0 0 20;give;");
    edges.due("of a dive that had 0 points", 20 * 100, zero.asDrop(0, 0));
    DropTwo few = edges.meet(EdgesOfAwards.single(3, 0, 20));
    edges.act(few, "marks 0 1 20;give;");
    edges.due("no more than one of three", 300, few.asDrop(3, 0));
    DropTwo failed = edges.meet(EdgesOfAwards.single(3, 0, 20));
    edges.act(failed, "fail;give;");
    edges.due("what failed", 0, failed.asDrop(3, 0));
    DropTwo cut = edges.meet(TWO + "cut 1 most 1 anew;");
    edges.act(cut, "marks 0 4 20;give;marks 5 5 5;give;");
    edges.due("who was cut", 24 * 100, cut.asDrop(0, 0));
    edges.due("who went on begins anew", 0, cut.asDrop(0, 1));
    edges.act(cut, "marks 1 2 9;give;");
    edges.due("from then on", 12 * 100, cut.asDrop(0, 1));
  }

  private void asDropNone() {
    DropTwo x = edges.meet(BOTH);
    edges.beyond("asDrop", 0, 3, -1, drop -> x.asDrop(drop, 0));
    edges.beyond("asDrop's entrant", 0, 1, -1, entrant -> x.asDrop(0, entrant));
  }
}
