/** Promises 9 to 15: what is told. */
final class EdgesOfTold {
  private static final String BOTH = EdgesOfScripts.BOTH;
  private static final String FOUR = EdgesOfRounds.FOUR;

  private final Edges edges;

  EdgesOfTold(Edges edges) {
    this.edges = edges;
  }

  void all() {
    edges.says(9, "0 ROUNDS, 1 DROP (both 0 without a MEET),", this::lookRounds);
    edges.says(9, "2 JUDGES, 3 DIVES, 4 ENTRANTS, 5 LAWS, 6 CUTS,", this::lookCounts);
    edges.says(9, "7 ACTS that can be undone,", this::lookActs);
    edges.says(9, "8 1 if it is OVER (0 without a MEET),", this::lookOver);
    edges.says(9, "9 how many are IN,", this::lookIn);
    edges.says(9, "10 bytes of THE TAPE.", this::lookTape);
    edges.says(9, "NONE for others.", this::lookOthers);
    edges.says(10, "Of a DIVE what 0 GROUP, 1 DEGREE.", this::dives);
    edges.says(10, "NONE for others.", this::diveOthers);
    edges.says(11, "Of an ENTRANT what 0 whether it is a pair (1, 0), 1 LAND,", this::entrants);
    edges.says(11, "2 0 if it is IN, the ROUND behind which it was CUT, 7 if WITHDRAWN,", this::entrantIn);
    edges.says(11, "3 how many of its DIVES were given.", this::entrantGiven);
    edges.says(11, "NONE for others.", this::entrantOthers);
    edges.says(12, "Of a JUDGE what 0 LAND, 1 SORT.", this::judges);
    edges.says(12, "NONE for others.", this::judgeOthers);
    edges.says(13, "The DIVE of a ROUND of an ENTRANT's LIST.", this::lists);
    edges.says(13, "NONE for others.", this::listOthers);
    edges.says(14, "FORM of an ENTRANT in a GROUP.", this::forms);
    edges.says(14, "NONE for others.", this::formOthers);
    edges.says(15, "Of a CUT what 0 its ROUND, 1 how many go on, 2 1 if it is anew, else 0.", this::cuts);
    edges.says(15, "NONE for others.", this::cutOthers);
  }

  private void lookRounds() {
    DropTwo x = new DropTwo();
    edges.due("without a meet", 0, x.look(0));
    edges.due("without a meet", 0, x.look(1));
    Check.meet(x, "rounds 7 drop 3;");
    edges.due("with a fault", 0, x.look(0));
    Check.meet(x, EdgesOfMeets.rounds(6, 3, ""));
    edges.due("rounds", 6, x.look(0));
    edges.due("drop", 3, x.look(1));
    Check.meet(x, EdgesOfMeets.rounds(1, 0, ""));
    edges.due("rounds", 1, x.look(0));
    edges.due("drop", 0, x.look(1));
  }

  private void lookCounts() {
    DropTwo x = edges.meet(BOTH + "law 1=1;law 2=2;cut 1 most 1;");
    int[] due = {5, 3, 2, 2, 1};
    for (int what = 2; what <= 6; what++) {
      edges.due("look(" + what + ")", due[what - 2], x.look(what));
    }
    Check.meet(x, EdgesOfMeets.ONE);
    int[] fewer = {1, 1, 1, 0, 0};
    for (int what = 2; what <= 6; what++) {
      edges.due("look(" + what + ")", fewer[what - 2], x.look(what));
    }
    DropTwo most = edges.meet(EdgesOfMeets.most());
    edges.due("eleven judges", 11, most.look(2));
    edges.due("six entrants", 6, most.look(4));
    edges.due("six laws", 6, most.look(5));
  }

  private void lookActs() {
    DropTwo x = edges.meet(BOTH);
    edges.due("none", 0, x.look(7));
    for (int i = 1; i <= 22; i++) {
      x.cap(i % 20);
      edges.due("behind " + i, Math.min(i, 20), x.look(7));
    }
    x.cap(21);
    x.give();
    edges.due("what is refused is none", 20, x.look(7));
    x.undo();
    edges.due("one less", 19, x.look(7));
    x.keep(0);
    edges.due("keep is none", 19, x.look(7));
    x.back(0);
    edges.due("nothing behind back", 0, x.look(7));
  }

  private void lookOver() {
    DropTwo x = new DropTwo();
    edges.due("without a meet", 0, x.look(8));
    Check.meet(x, EdgesOfMeets.ONE);
    edges.due("at its begin", 0, x.look(8));
    edges.act(x, "fail;");
    edges.due("not yet", 0, x.look(8));
    x.give();
    edges.due("over", 1, x.look(8));
    x.undo();
    edges.due("undone", 0, x.look(8));
    x.out(0);
    edges.due("nobody is in", 1, x.look(8));
  }

  private void lookIn() {
    edges.due("without a meet", 0, new DropTwo().look(9));
    DropTwo x = edges.meet(FOUR + "cut 1 most 2;");
    edges.due("all", 4, x.look(9));
    x.out(3);
    edges.due("one less", 3, x.look(9));
    edges.act(x, "all 3;give;all 4;give;all 5;give;");
    edges.due("behind the cut", 2, x.look(9));
    x.out(2);
    x.out(1);
    edges.due("nobody", 0, x.look(9));
  }

  private void lookTape() {
    DropTwo x = new DropTwo();
    edges.due("empty", 0, x.look(10));
    x.feed(0, 0, 0, 0, 0);
    edges.due("twenty", 20, x.look(10));
    x.end(3);
    edges.due("three", 3, x.look(10));
    for (int i = 0; i < 60; i++) {
      x.feed(0, 0, 0, 0, 0);
    }
    edges.due("no more than 1,200", 3 + 59 * 20, x.look(10));
    x.meet();
    edges.due("empty", 0, x.look(10));
  }

  private void lookOthers() {
    DropTwo x = new DropTwo();
    edges.beyond("look", 0, 10, -1, x::look);
    Check.meet(x, BOTH);
    edges.beyond("look", 0, 10, -1, x::look);
  }

  private void dives() {
    DropTwo x = edges.meet(BOTH);
    int[][] due = {{1, 20}, {2, 30}, {3, 25}};
    for (int dive = 0; dive < 3; dive++) {
      edges.due("group of " + dive, due[dive][0], x.dive(dive, 0));
      edges.due("degree of " + dive, due[dive][1], x.dive(dive, 1));
    }
  }

  private void diveOthers() {
    DropTwo x = edges.meet(BOTH);
    edges.beyond("dive", 0, 2, -1, dive -> x.dive(dive, 0));
    edges.beyond("dive", 0, 2, -1, dive -> x.dive(dive, 1));
    edges.beyond("dive's what", 0, 1, -1, what -> x.dive(0, what));
    // Fewer dives than in the meet ahead.
    Check.meet(x, EdgesOfMeets.ONE);
    edges.due("a dive of the meet ahead", -1, x.dive(1, 0));
  }

  private void entrants() {
    DropTwo x = edges.meet(BOTH);
    edges.due("a diver", 0, x.entrant(0, 0));
    edges.due("a pair", 1, x.entrant(1, 0));
    edges.due("land", 1, x.entrant(0, 1));
    edges.due("land", 2, x.entrant(1, 1));
  }

  private void entrantIn() {
    DropTwo x = edges.meet(FOUR + "cut 1 most 3;cut 2 most 1;");
    edges.due("in", 0, x.entrant(0, 2));
    edges.act(x, "all 5;give;all 4;give;all 3;give;all 2;give;");
    edges.due("cut behind the first round", 1, x.entrant(3, 2));
    edges.act(x, "out a;all 5;give;");
    edges.due("withdrawn", 7, x.entrant(0, 2));
    edges.act(x, "all 6;give;");
    edges.due("in", 0, x.entrant(1, 2));
    edges.due("cut behind the second round", 2, x.entrant(2, 2));
    edges.due("still cut behind the first one", 1, x.entrant(3, 2));
    edges.act(x, "fail;give;");
    edges.due("in, though it is over", 0, x.entrant(1, 2));
    edges.due("over", 1, x.look(8));
  }

  private void entrantGiven() {
    DropTwo x = edges.meet(BOTH);
    edges.due("none", 0, x.entrant(0, 3));
    edges.act(x, "all 3;");
    edges.due("marked is not given", 0, x.entrant(0, 3));
    x.give();
    edges.due("one", 1, x.entrant(0, 3));
    edges.due("none of the other", 0, x.entrant(1, 3));
    edges.act(x, "fail;give;");
    edges.due("one that failed", 1, x.entrant(1, 3));
    edges.act(x, "out ann;");
    edges.due("out at the board", 1, x.entrant(0, 3));
    edges.act(x, "fail;give;");
    edges.due("all", 2, x.entrant(1, 3));
  }

  private void entrantOthers() {
    DropTwo x = edges.meet(BOTH);
    for (int what = 0; what <= 3; what++) {
      int fixed = what;
      edges.beyond("entrant", 0, 1, -1, entrant -> x.entrant(entrant, fixed));
    }
    edges.beyond("entrant's what", 0, 3, -1, what -> x.entrant(1, what));
  }

  private void judges() {
    DropTwo x = edges.meet(BOTH);
    int[] sorts = {0, 1, 0, 2, 3};
    for (int judge = 0; judge < 5; judge++) {
      edges.due("land of " + judge, judge + 1, x.judge(judge, 0));
      edges.due("sort of " + judge, sorts[judge], x.judge(judge, 1));
    }
  }

  private void judgeOthers() {
    DropTwo x = edges.meet(BOTH);
    edges.beyond("judge", 0, 4, -1, judge -> x.judge(judge, 0));
    edges.beyond("judge", 0, 4, -1, judge -> x.judge(judge, 1));
    edges.beyond("judge's what", 0, 1, -1, what -> x.judge(4, what));
  }

  private void lists() {
    DropTwo x = edges.meet(BOTH);
    int[][] due = {{0, 1}, {1, 2}};
    for (int entrant = 0; entrant < 2; entrant++) {
      for (int round = 1; round <= 2; round++) {
        edges.due("list(" + entrant + ", " + round + ")", due[entrant][round - 1], x.list(entrant, round));
      }
    }
    x.change(1, 2, 0);
    edges.due("as it is now", 0, x.list(1, 2));
    x.out(1);
    edges.due("of one who is out, too", 0, x.list(1, 2));
  }

  private void listOthers() {
    DropTwo x = edges.meet(BOTH);
    edges.beyond("list", 0, 1, -1, entrant -> x.list(entrant, 1));
    edges.beyond("list's round", 1, 2, -1, round -> x.list(1, round));
  }

  private void forms() {
    DropTwo x = edges.meet(BOTH + "form duo 0 4 8 12 16 20;");
    for (int group = 1; group <= 6; group++) {
      edges.due("form(1, " + group + ")", 4 * (group - 1), x.form(1, group));
      edges.due("form(0, " + group + ")", 10, x.form(0, group));
    }
  }

  private void formOthers() {
    DropTwo x = edges.meet(BOTH);
    edges.beyond("form", 0, 1, -1, entrant -> x.form(entrant, 1));
    edges.beyond("form's group", 1, 6, -1, group -> x.form(0, group));
    edges.beyond("form's group", 1, 6, -1, group -> x.form(1, group));
  }

  private void cuts() {
    DropTwo x = edges.meet(FOUR + "cut 1 most 5 anew;cut 2 most 1;");
    int[][] due = {{1, 5, 1}, {2, 1, 0}};
    for (int cut = 0; cut < 2; cut++) {
      for (int what = 0; what <= 2; what++) {
        edges.due("cut(" + cut + ", " + what + ")", due[cut][what], x.cut(cut, what));
      }
    }
  }

  private void cutOthers() {
    DropTwo x = edges.meet(FOUR + "cut 1 most 5 anew;cut 2 most 1;");
    for (int what = 0; what <= 2; what++) {
      int fixed = what;
      edges.beyond("cut", 0, 1, -1, cut -> x.cut(cut, fixed));
    }
    edges.beyond("cut's what", 0, 2, -1, what -> x.cut(0, what));
    Check.meet(x, FOUR);
    edges.due("without cuts", -1, x.cut(0, 0));
  }
}
