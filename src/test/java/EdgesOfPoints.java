/** Promises 32 to 38: points, totals, ranks, the sheet. */
final class EdgesOfPoints {
  private static final String BOTH = EdgesOfScripts.BOTH;
  private static final String FOUR = EdgesOfRounds.FOUR;

  private final Edges edges;

  EdgesOfPoints(Edges edges) {
    this.edges = edges;
  }

  void all() {
    edges.says(32, "POINTS of an ENTRANT's DIVE in a ROUND.", this::points);
    edges.says(32, "NONE: it was not given, others.", this::pointsNone);
    edges.says(33, "Of a JUDGE in a DIVE that was given what 0 its AWARD, 1 what COUNTED, 2 1 if it was KEPT, else 0.",
        this::award);
    edges.says(33, "NONE: it was not given, it FAILED, it is none of its JUDGES, others.", this::awardNone);
    edges.says(34, "JUDGES that were KEPT of a DIVE that was given, as bits (0: it FAILED).", this::kept);
    edges.says(34, "NONE: it was not given, others.", this::keptNone);
    edges.says(35, "Of an ENTRANT what 0 TOTAL, 1 POINTS of all ROUNDS that were given.", this::total);
    edges.says(35, "NONE for others.", this::totalOthers);
    edges.says(36, "RANK.", this::rank);
    edges.says(36, "NONE: no such ENTRANT.", this::rankNone);
    edges.says(37, "The i-th ENTRANT (from 0 on) by RANK, of like ones by numbers.", this::at);
    edges.says(37, "NONE for others.", this::atOthers);
    edges.says(38, "Sign k of the SHEET; k NONE: how many it has.", this::sheetSigns);
    edges.says(38, "The SHEET: for each ENTRANT, in that order, RANK, a blank, NAME, a blank,", this::sheetRows);
    edges.says(38, "TOTAL in points with two digits behind a dot (as 7.05), and ; .", this::sheetTotals);
    edges.says(38, "NONE: there is none such.", this::sheetNone);
  }

  /** BOTH behind its first round: ann 7 and 8 with a cap of 7, duo failed. */
  private DropTwo given() {
    DropTwo x = edges.meet(BOTH);
    edges.act(x, "cap 7;marks 7 8;give;fail;give;");
    return x;
  }

  private void points() {
    DropTwo x = given();
    edges.due("of a diver", 7 * 15 * 20, x.points(0, 1));
    edges.due("of one that failed", 0, x.points(1, 1));
    edges.act(x, "all 0;give;all 20;give;");
    edges.due("of 0", 0, x.points(0, 2));
    edges.due("the last one", 20 * 15 * 25, x.points(1, 2));
    edges.due("the first one stays", 7 * 15 * 20, x.points(0, 1));
  }

  private void pointsNone() {
    DropTwo x = given();
    edges.due("not given", -1, x.points(0, 2));
    edges.act(x, "all 5;");
    edges.due("marked, not given", -1, x.points(0, 2));
    edges.act(x, "out ann;");
    edges.due("out at the board", -1, x.points(0, 2));
    edges.beyond("points", 0, 1, -1, entrant -> x.points(entrant, 1));
    edges.beyond("points' round", 1, 2, -1, round -> x.points(0, round));
    edges.due("without a meet", -1, new DropTwo().points(0, 1));
  }

  private void award() {
    DropTwo x = given();
    edges.due("its award", 7, x.award(0, 1, 0, 0));
    edges.due("its award", 8, x.award(0, 1, 2, 0));
    edges.due("what counted", 7, x.award(0, 1, 0, 1));
    edges.due("what counted", 7, x.award(0, 1, 2, 1));
    edges.due("kept", 1, x.award(0, 1, 2, 2));
    edges.act(x, "marks 1 2;give;");
    edges.due("of the dive ahead", 7, x.award(0, 1, 2, 1));
    edges.due("of this one", 2, x.award(0, 2, 2, 1));
    edges.due("of this one", 1, x.award(0, 2, 0, 0));
    DropTwo y = edges.meet(EdgesOfAwards.single(3, 1, 20));
    edges.act(y, "marks 20 0 9;give;");
    int[] kept = {0, 0, 1};
    int[] awards = {20, 0, 9};
    for (int judge = 0; judge < 3; judge++) {
      edges.due("kept " + judge, kept[judge], y.award(0, 1, judge, 2));
      edges.due("award of " + judge, awards[judge], y.award(0, 1, judge, 0));
    }
  }

  private void awardNone() {
    DropTwo x = given();
    for (int what = 0; what <= 2; what++) {
      edges.due("not given", -1, x.award(0, 2, 0, what));
      edges.due("it failed", -1, x.award(1, 1, 1, what));
      edges.due("none of its judges", -1, x.award(0, 1, 1, what));
    }
    edges.act(x, "all 5;");
    edges.due("marked, not given", -1, x.award(0, 2, 0, 0));
    edges.beyond("award", 0, 1, -1, entrant -> x.award(entrant, 1, 0, 0));
    edges.beyond("award's round", 1, 2, -1, round -> x.award(0, round, 0, 0));
    edges.beyond("award's judge", 0, 4, -1, judge -> x.award(0, 1, judge, 0));
    edges.beyond("award's what", 0, 2, -1, what -> x.award(0, 1, 0, what));
  }

  private void kept() {
    DropTwo x = given();
    edges.due("of a diver", 1 + 4, x.kept(0, 1));
    edges.due("it failed", 0, x.kept(1, 1));
    edges.act(x, "all 5;give;all 5;give;");
    edges.due("of a pair", 2 + 8 + 16, x.kept(1, 2));
    DropTwo y = edges.meet(EdgesOfAwards.single(11, 0, 20));
    edges.act(y, "all 0;give;");
    edges.due("all eleven", 2047, y.kept(0, 1));
    DropTwo z = edges.meet(EdgesOfAwards.single(11, 3, 20));
    edges.act(z, "marks 10 9 8 7 6 5 4 3 2 1 0;give;");
    edges.due("five in the middle", 8 + 16 + 32 + 64 + 128, z.kept(0, 1));
  }

  private void keptNone() {
    DropTwo x = given();
    edges.due("not given", -1, x.kept(0, 2));
    edges.act(x, "all 5;");
    edges.due("marked, not given", -1, x.kept(0, 2));
    edges.beyond("kept", 0, 1, -1, entrant -> x.kept(entrant, 1));
    edges.beyond("kept's round", 1, 2, -1, round -> x.kept(0, round));
  }

  private void total() {
    DropTwo x = edges.meet(BOTH + "cut 1 most 2 anew;");
    edges.due("nothing yet", 0, x.total(0, 0));
    edges.due("nothing yet", 0, x.total(0, 1));
    edges.act(x, "all 5;give;");
    edges.due("total", 5 * 300, x.total(0, 0));
    edges.due("all", 5 * 300, x.total(0, 1));
    edges.act(x, "all 5;give;");
    edges.due("anew", 0, x.total(0, 0));
    edges.due("all", 5 * 300, x.total(0, 1));
    edges.act(x, "all 2;give;");
    edges.due("total", 2 * 450, x.total(0, 0));
    edges.due("all", 5 * 300 + 2 * 450, x.total(0, 1));
    edges.act(x, "out duo;");
    edges.due("of one who is out", 0, x.total(1, 0));
    edges.due("of one who is out", 5 * 450, x.total(1, 1));
    DropTwo most = edges.meet(EdgesOfMeets.rounds(6, 0, "").replace("degree 20", "degree 60"));
    edges.act(most, "all 20;give;".repeat(6));
    edges.due("the most", 6 * 18000, most.total(0, 0));
    edges.due("the most", 6 * 18000, most.total(0, 1));
  }

  private void totalOthers() {
    DropTwo x = given();
    edges.beyond("total", 0, 1, -1, entrant -> x.total(entrant, 0));
    edges.beyond("total", 0, 1, -1, entrant -> x.total(entrant, 1));
    edges.beyond("total's what", 0, 1, -1, what -> x.total(0, what));
  }

  private void rank() {
    DropTwo x = edges.meet(FOUR);
    edges.due("all alike", 1, x.rank(3));
    edges.act(x, "all 5;give;all 7;give;all 5;give;all 6;give;");
    int[] due = {3, 1, 3, 2};
    for (int entrant = 0; entrant < 4; entrant++) {
      edges.due("rank(" + entrant + ")", due[entrant], x.rank(entrant));
    }
  }

  private void rankNone() {
    DropTwo x = edges.meet(FOUR);
    edges.beyond("rank", 0, 3, -1, x::rank);
    edges.due("without a meet", -1, new DropTwo().rank(0));
  }

  private void at() {
    DropTwo x = edges.meet(FOUR);
    for (int i = 0; i < 4; i++) {
      edges.due("like ones by numbers", i, x.at(i));
    }
    edges.act(x, "all 5;give;all 7;give;all 5;give;all 6;give;");
    int[] due = {1, 3, 0, 2};
    for (int i = 0; i < 4; i++) {
      edges.due("at(" + i + ")", due[i], x.at(i));
    }
    edges.act(x, "out b;");
    int[] then = {3, 0, 2, 1};
    for (int i = 0; i < 4; i++) {
      edges.due("at(" + i + ")", then[i], x.at(i));
    }
    DropTwo one = edges.meet(EdgesOfMeets.ONE);
    edges.due("the only one", 0, one.at(0));
  }

  private void atOthers() {
    DropTwo x = edges.meet(FOUR);
    edges.beyond("at", 0, 3, -1, x::at);
    edges.due("without a meet", -1, new DropTwo().at(0));
  }

  private void sheet(DropTwo x, String due) {
    edges.due("how many signs", due.length(), x.sheet(-1));
    for (int k = 0; k < due.length(); k++) {
      edges.due("sign " + k + " of " + due, due.charAt(k), x.sheet(k));
    }
    edges.due("behind " + due, -1, x.sheet(due.length()));
  }

  private void sheetSigns() {
    edges.due("without a meet", 0, new DropTwo().sheet(-1));
    sheet(edges.meet(EdgesOfMeets.ONE), "1 ann 0.00;");
  }

  private void sheetRows() {
    DropTwo x = edges.meet(FOUR);
    sheet(x, "1 a 0.00;1 b 0.00;1 c 0.00;1 d 0.00;");
    edges.act(x, "all 5;give;all 7;give;all 5;give;all 6;give;");
    sheet(x, "1 b 21.00;2 d 18.00;3 a 15.00;3 c 15.00;");
    edges.act(x, "out b;");
    sheet(x, "1 d 18.00;2 a 15.00;2 c 15.00;4 b 21.00;");
    sheet(edges.meet(EdgesOfMeets.ONE.replace("ann", "zyxwvut")), "1 zyxwvut 0.00;");
  }

  private void sheetTotal(int degree, int award, String due) {
    DropTwo x = edges.meet(EdgesOfAwards.single(1, 0, degree));
    edges.act(x, "all " + award + ";give;");
    sheet(x, "1 ann " + due + ";");
  }

  private void sheetTotals() {
    sheetTotal(20, 0, "0.00");
    sheetTotal(10, 1, "1.50");
    sheetTotal(47, 1, "7.05");
    sheetTotal(60, 20, "180.00");
    sheetTotal(11, 1, "1.65");
    sheetTotal(33, 2, "9.90");
    sheetTotal(34, 2, "10.20");
    // 10 * 1 * 15 / 11 = 13, cut: below one point.
    DropTwo x = edges.meet(EdgesOfAwards.single(11, 0, 10));
    edges.act(x, "marks 1 0 0 0 0 0 0 0 0 0 0;give;");
    sheet(x, "1 ann 0.13;");
    // TOTAL, not all points.
    DropTwo anew = edges.meet(BOTH + "cut 1 most 2 anew;");
    edges.act(anew, "all 5;give;all 5;give;");
    sheet(anew, "1 ann 0.00;1 duo 0.00;");
    DropTwo most = edges.meet(EdgesOfMeets.rounds(6, 0, "").replace("degree 20", "degree 60"));
    edges.act(most, "all 20;give;".repeat(6));
    sheet(most, "1 ann 1080.00;");
  }

  private void sheetNone() {
    DropTwo x = edges.meet(EdgesOfMeets.ONE);
    int size = "1 ann 0.00;".length();
    for (int k : new int[] {-2, -3, Integer.MIN_VALUE, size, size + 1, Integer.MAX_VALUE}) {
      edges.due("sheet(" + k + ")", -1, x.sheet(k));
    }
    edges.due("without a meet", -1, new DropTwo().sheet(0));
  }
}
