/** Terms ==== 4: scripts, draws, answers without a meet; and the constants. */
final class EdgesOfScripts {
  private final Edges edges;

  EdgesOfScripts(Edges edges) {
    this.edges = edges;
  }

  void all() {
    edges.says(0, "A SCRIPT: { ACT [ times N ] \";\" },", this::shapes);
    edges.says(0, "60 ACTS at most,", this::sixty);
    edges.says(0, "N 1 .. 20.", this::times);
    edges.says(0, "ACT: marks N { N } (AWARDS of its JUDGES, by their numbers; 11 N at most)", this::marks);
    edges.says(0, "| all N (each of its JUDGES marks that)", this::allMark);
    edges.says(0, "| balk | cap N | half (first | second) | fail | give | out NAME.", this::otherActs);
    edges.says(0, "FAULTS likewise: 1;", this::ones);
    edges.says(0, "2 (N above 20; times);", this::twos);
    edges.says(0, "3 (no ENTRANT);", this::threes);
    edges.says(0, "4 (the 61st ACT, at its first byte; the 12th N of marks, at it).", this::fours);
    edges.says(0, "Each is done as often as told, one behind the other;", this::asOften);
    edges.says(0, "if one can't be done (marks: not as many N as its JUDGES), all is as it was ahead of the SCRIPT.",
        this::notDone);
    edges.says(0, "One that is done is one ACT (none, if it has no ACTS).", this::oneAct);
    edges.says(0, "A DRAW of m: x becomes x times 1103 and 12345, modulo 1000003: x modulo m.", this::draws);
    edges.says(0, "Of several answers that hold NONE goes first, then -2, then -3:", this::severalAnswers);
    edges.says(0, "without a MEET there are no JUDGES, DIVES, ENTRANTS, LAWS, CUTS, and nobody is at THE BOARD.",
        this::noMeet);
    edges.says(0, "ROUNDS are told from 1 on.", this::roundsFromOne);
    edges.says(0, "`NONE = -1`: None.", this::none);
    edges.says(0, "`NOTHING = Integer.MIN_VALUE`: What is not there, where it could be below 0.", this::nothing);
  }

  /** Two judges of divers, one of each sort of pairs; ann, then duo. */
  static final String BOTH =
      "rounds 2 drop 0;judge land 1;judge land 2 first;judge land 3;judge land 4 second;"
          + "judge land 5 together;dive fa group 1 degree 20;dive ba group 2 degree 30;"
          + "dive re group 3 degree 25;diver ann land 1;pair duo land 2;list ann fa ba;list duo ba re;";

  private DropTwo both() {
    return edges.meet(BOTH);
  }

  private void fault(int kind, String text) {
    edges.scriptFault(both(), kind, text);
  }

  private void done(int due, String text) {
    DropTwo x = both();
    edges.due("script of " + text, due, Check.script(x, text));
    edges.due("fault(0) of " + text, 0, x.fault(0));
    edges.due("fault(1) of " + text, -1, x.fault(1));
  }

  private void shapes() {
    done(0, "");
    done(0, " \n ");
    done(1, "balk;");
    done(1, "\nbalk\n;\n");
    done(3, "balk;cap3;all2;");
    done(2, "cap 3 times 2;");
    done(2, "cap3times2;");
    fault(1, "^;");
    fault(1, "balk^");
    fault(1, "balk;^;");
    fault(1, "balk ^cap 3;");
    fault(1, "balk times^;");
    fault(1, "balk times 1 ^times 1;");
    fault(1, "balk ^2;");
    fault(1, "^times 2;");
  }

  private void sixty() {
    done(60, "cap 1;".repeat(60));
    fault(4, "cap 1;".repeat(60) + "^cap 1;");
    done(1200, "cap 1 times 20;".repeat(60));
  }

  private void times() {
    done(1, "cap 1 times 1;");
    done(20, "cap 1 times 20;");
    fault(2, "cap 1 times ^0;");
    fault(2, "cap 1 times ^21;");
    fault(2, "cap 1 times ^9999;");
    fault(1, "cap 1 times ^00001;");
  }

  private void marks() {
    DropTwo x = both();
    edges.due("of a diver", 1, Check.script(x, "marks 7 8;"));
    int[] ann = {7, -1, 8, -1, -1};
    for (int judge = 0; judge < 5; judge++) {
      edges.due("marked(" + judge + ")", ann[judge], x.marked(judge));
    }
    edges.due("of a pair", 2, Check.script(x, "give;marks 0 20 10;"));
    int[] duo = {-1, 0, -1, 20, 10};
    for (int judge = 0; judge < 5; judge++) {
      edges.due("marked(" + judge + ")", duo[judge], x.marked(judge));
    }
    DropTwo eleven = edges.meet(EdgesOfAwards.single(11, 0, 20));
    edges.due("eleven", 1, Check.script(eleven, "marks 0 1 2 3 4 5 6 7 8 9 10;"));
    for (int judge = 0; judge < 11; judge++) {
      edges.due("marked(" + judge + ")", judge, eleven.marked(judge));
    }
    // The last of sixty acts has room for eleven, too.
    edges.due("sixty", 60, Check.script(eleven, "cap 9;".repeat(59) + "marks 10 9 8 7 6 5 4 3 2 1 0;"));
    for (int judge = 0; judge < 11; judge++) {
      edges.due("marked(" + judge + ")", 10 - judge, eleven.marked(judge));
    }
    // Each of marks has its own awards.
    edges.due("two of them", 3, Check.script(eleven, "marks 0 0 0 0 0 0 0 0 0 0 0;cap 20;marks 1 2 3 4 5 6 7 8 9 10 11;"));
    edges.due("the last one's", 11, eleven.marked(10));
    fault(4, "marks 1 1 1 1 1 1 1 1 1 1 1 ^1;");
    fault(1, "marks^;");
    fault(1, "marks 1 ^give;");
  }

  private void allMark() {
    DropTwo x = both();
    edges.due("of a diver", 1, Check.script(x, "all 20;"));
    edges.due("how many have marked", 2, x.board(3));
    edges.due("a judge of pairs", -1, x.marked(1));
    edges.due("of a pair", 2, Check.script(x, "give;all 0;"));
    edges.due("how many have marked", 3, x.board(3));
    edges.due("marked", 0, x.marked(4));
    edges.due("a judge of divers", -1, x.marked(0));
    edges.due("in place of one ahead", 1, Check.script(x, "all 5;"));
    edges.due("marked", 5, x.marked(4));
    fault(1, "all^;");
    fault(1, "all 1 ^1;");
  }

  private void otherActs() {
    DropTwo x = both();
    edges.due("balk, cap", 2, Check.script(x, "balk;cap 9;"));
    edges.due("a balk", 1, x.board(5));
    edges.due("a cap", 9, x.board(6));
    edges.due("fail, give", 2, Check.script(x, "fail;give;"));
    edges.due("given", 0, x.points(0, 1));
    edges.due("the first half", 1, Check.script(x, "half first;"));
    edges.due("the first half", 1, x.board(7));
    edges.due("the second half", 1, Check.script(x, "half second;"));
    edges.due("both", 3, x.board(7));
    edges.due("out", 1, Check.script(x, "out duo;"));
    edges.due("withdrawn", 7, x.entrant(1, 2));
    fault(1, "cap^;");
    fault(1, "half^;");
    fault(1, "half ^together;");
    fault(1, "half ^1;");
    fault(1, "fail ^1;");
    fault(1, "give ^1;");
    fault(1, "out^;");
    fault(1, "out ^1;");
    fault(1, "out ann ^duo;");
  }

  private void ones() {
    fault(1, "^mark 1;");
    fault(1, "^dive;");
    fault(1, "^ann;");
    fault(1, "^1;");
    fault(1, "^Balk;");
    fault(1, "^abcdefgh;");
    fault(1, "out ^abcdefgh;");
    fault(1, "out ^give;");
    fault(1, "all ^00001;");
    fault(1, "give \t;".replace("\t", "^\t"));
    fault(1, "give;" + " ".repeat(1194) + "^x");
  }

  private void twos() {
    fault(2, "marks ^21;");
    fault(2, "marks 1 1 1 1 1 1 1 1 1 1 ^21;");
    fault(2, "all ^21;");
    fault(2, "cap ^21;");
    fault(2, "cap ^9999;");
    fault(2, "give times ^0;");
    fault(2, "give times ^21;");
    // Of one place the least: the 12th of marks is above 20, too.
    fault(2, "marks 1 1 1 1 1 1 1 1 1 1 1 ^21;");
    done(2, "all 20;cap 20;");
  }

  private void threes() {
    fault(3, "out ^zz;");
    fault(3, "out ^fa;");
    fault(3, "out ^an;");
    edges.scriptFault(new DropTwo(), 3, "out ^ann;");
  }

  private void fours() {
    fault(4, "cap 1;".repeat(60) + " \n^cap 1;");
    fault(4, "cap 1;".repeat(60) + "^cap 21;");
    fault(4, "marks 1 1 1 1 1 1 1 1 1 1 1 ^20;");
    fault(1, "marks 1 1 1 1 1 1 1 1 1 1 1 ^00020;");
    // Of one place the least: what is no act at all.
    fault(1, "cap 1;".repeat(60) + "^ann;");
    fault(1, "cap 1;".repeat(60) + "^;");
  }

  private void asOften() {
    DropTwo x = both();
    edges.due("twice", 3, Check.script(x, "cap 7;balk times 2;"));
    edges.due("two balks", 2, x.board(5));
    edges.due("it failed", 1, x.board(8));
    DropTwo y = both();
    edges.due("one behind the other", 4, Check.script(y, "cap 7;cap 5;all 9;give;"));
    edges.due("by the last cap", 5 * 15 * 20, y.points(0, 1));
    DropTwo z = both();
    edges.due("each ahead of the next one", -2, Check.script(z, "give;all 9;"));
    edges.due("the first one", 0, z.stopped());
  }

  private void notDone() {
    String[] texts = {
      "balk;marks 1;", "balk;marks 1 2 3;", "all 1;give;marks 1 2;", "all 1;give times 2;", "balk times 3;",
      "fail times 2;", "all 3;half first;", "out ann;out ann;", "give;", "fail;all 1;", "fail;cap 1;",
      "fail;balk;", "fail;marks 1 2;", "all 1;give;half first times 2;", "all 1;give;half second;half second;",
      "out ann;out duo;give;", "out ann;out duo;all 1;", "all 1;give;fail;give;fail;give;fail;give;fail;"
    };
    for (String text : texts) {
      DropTwo x = both();
      edges.act(x, "cap 11;");
      edges.due("change", 1, x.change(0, 2, 2));
      edges.stays("script of " + text, x, () -> edges.due("script of " + text, -2, Check.script(x, text)));
    }
  }

  private void oneAct() {
    DropTwo x = both();
    edges.act(x, "all 1;give;all 2;give;balk;");
    edges.due("one act", 1, x.look(7));
    edges.due("no acts", 0, Check.script(x, " "));
    edges.due("is none", 1, x.look(7));
    edges.due("undone", 0, x.undo());
    edges.due("all of it", -1, x.points(0, 1));
    edges.due("no acts", 0, Check.script(x, ""));
    edges.due("nothing can be undone", -3, x.undo());
  }

  private static final String DRAWS =
      "rounds 1 drop 0;judge land 1;dive fa group 1 degree 20;diver ann land 1;diver bob land 1;"
          + "list ann fa;list bob fa;";

  /** By the document's words, run by run: one judge, two divers, 10 by form each. */
  private static int[] winsByDraws(long seed, int n) {
    long x = seed;
    int[] wins = new int[2];
    for (int run = 0; run < n; run++) {
      x = (x * 1103 + 12345) % 1000003;
      long ann = 10 + x % 5 - 2;
      x = (x * 1103 + 12345) % 1000003;
      long bob = 10 + x % 5 - 2;
      wins[0] += ann >= bob ? 1 : 0;
      wins[1] += bob >= ann ? 1 : 0;
    }
    return wins;
  }

  private void draws() {
    DropTwo x = edges.meet(DRAWS);
    // From 0: 12345 and 628841, so 0 and 1. From 999999: 7933 and 762420, so 3 and 0.
    edges.due("0 is less than 1", 0, x.wins(0, 1, 0));
    edges.due("3 is more than 0", 1, x.wins(999999, 1, 0));
    edges.due("3 is more than 0", 0, x.wins(999999, 1, 1));
    for (int seed : new int[] {0, 1, 2, 895, 906, 907, 1000, 77777, 500001, 999998, 999999}) {
      for (int n : new int[] {1, 2, 39, 40}) {
        int[] due = winsByDraws(seed, n);
        edges.due("wins(" + seed + ", " + n + ", 0)", due[0], x.wins(seed, n, 0));
        edges.due("wins(" + seed + ", " + n + ", 1)", due[1], x.wins(seed, n, 1));
      }
    }
  }

  private void severalAnswers() {
    DropTwo none = new DropTwo();
    edges.due("mark: no such judge, nobody is there", -2, none.mark(0, 5));
    edges.due("cap: no such award, nobody is there", -2, none.cap(21));
    edges.due("half: no such half, nobody is there", -2, none.half(2));
    edges.due("out: no such one, nobody is there", -2, none.out(0));
    edges.due("change: no such ones, nobody is there", -2, none.change(0, 1, 0));
    edges.due("keep: another k, no meet", -2, none.keep(2));
    edges.due("back: another k, nothing is kept", -2, none.back(2));
    edges.scriptFault(none, 1, "give;^?");
    edges.due("stopped: it had a fault, and could not be done", -1, none.stopped());
    DropTwo x = both();
    edges.due("mark: no such award, none of its judges", -2, x.mark(1, 21));
    edges.due("half: no such half, no pair", -2, x.half(-1));
    edges.due("change: no such dive, at the board", -2, x.change(0, 1, 3));
    edges.due("without: no such entrant, the only one", -1, x.without(1, 2));
    edges.act(x, "all 0;give;all 9;give;");
    edges.due("bribes: not given, not all together", -1, x.bribes(0, 2, 1));
    edges.due("bribes: alike ones", -1, x.bribes(0, 1, 0));
    edges.act(x, "fail;");
    edges.due("mark: no such award, it failed", -2, x.mark(0, -1));
    edges.due("cap: no such award, it failed", -2, x.cap(-1));
    edges.act(x, "out ann;");
    edges.due("change: no such round, not in", -2, x.change(0, 3, 0));
    edges.due("out: no such one", -2, x.out(2));
  }

  private void noMeet() {
    DropTwo x = new DropTwo();
    for (int what = 2; what <= 6; what++) {
      edges.due("look(" + what + ")", 0, x.look(what));
    }
    edges.due("a judge", -1, x.judge(0, 0));
    edges.due("a dive", -1, x.dive(0, 0));
    edges.due("an entrant", -1, x.entrant(0, 0));
    edges.due("a law", -1, x.law(0, 0, 1));
    edges.due("a cut", -1, x.cut(0, 0));
    for (int what = 0; what <= 8; what++) {
      edges.due("board(" + what + ")", -1, x.board(what));
    }
    edges.due("mark", -2, x.mark(0, 0));
    edges.due("balk", -3, x.balk());
    edges.due("cap", -3, x.cap(0));
    edges.due("half", -3, x.half(0));
    edges.due("fail", -3, x.fail());
    edges.due("give", -3, x.give());
    edges.due("out", -2, x.out(0));
    edges.due("change", -2, x.change(0, 1, 0));
    edges.due("bias", DropTwo.NOTHING, x.bias(0, 0));
    edges.due("a script of an act", -2, Check.script(x, "balk;"));
  }

  private void roundsFromOne() {
    DropTwo x = both();
    edges.due("board", 1, x.board(1));
    edges.due("the first one", 0, x.list(0, 1));
    edges.due("the last one", 1, x.list(0, 2));
    edges.due("none", -1, x.list(0, 0));
    edges.due("none", -1, x.list(0, 3));
    edges.act(x, "all 1;give;all 1;give;all 1;");
    edges.due("board", 2, x.board(1));
  }

  private void none() {
    edges.due("NONE", -1, DropTwo.NONE);
    edges.due("look(11)", DropTwo.NONE, new DropTwo().look(11));
  }

  private void nothing() {
    edges.due("NOTHING", -2147483648L, DropTwo.NOTHING);
    DropTwo x = edges.meet(EdgesOfAwards.single(3, 0, 20));
    edges.act(x, "marks 3 9 9;give;");
    edges.due("below 0", -6, x.bias(0, 1));
    edges.due("what is not there", DropTwo.NOTHING, x.bias(3, 1));
  }
}
