/** Promises 1 to 8: a new object, the tape, meets, scripts, faults, names. */
final class EdgesOfTexts {
  private static final String ONE = EdgesOfMeets.ONE;
  private static final String BOTH = EdgesOfScripts.BOTH;

  private final Edges edges;

  EdgesOfTexts(Edges edges) {
    this.edges = edges;
  }

  void all() {
    edges.says(1, "No MEET.", this::newObject);
    edges.says(2, "Twenty bytes come behind THE TAPE, four of each number, the highest first: how many it has.",
        this::feeds);
    edges.says(2, "NONE, and none come, if there would be more than 1,200.", this::feedsNoMore);
    edges.says(3, "THE TAPE has its first n bytes alone: true;", this::ends);
    edges.says(3, "false if it has not so many, or n is below 0.", this::endsNot);
    edges.says(4, "THE TAPE (empty then) is the MEET, at its begin", this::meets);
    edges.says(4, "(nothing can be undone, nothing is kept then):", this::meetForgets);
    edges.says(4, "how many STATEMENTS.", this::meetStatements);
    edges.says(4, "NONE with a FAULT (all else stays).", this::meetFaults);
    edges.says(5, "THE TAPE (empty then) is a SCRIPT that is done: how many ACTS were done (each as often as it was).",
        this::scripts);
    edges.says(5, "NONE with a FAULT;", this::scriptFaults);
    edges.says(5, "-2: one can't be done", this::scriptNotDone);
    edges.says(5, "(all else stays with both).", this::scriptStays);
    edges.says(6, "Of the latest meet(), script() what 0 its FAULT (0 without, and ahead of any),", this::faultKinds);
    edges.says(6, "1 its place (NONE without).", this::faultPlaces);
    edges.says(6, "NONE for another what.", this::faultOthers);
    edges.says(7, "Which ACT of the latest script(), from 0 on, as they stand, could not be done.", this::stopped);
    edges.says(7, "NONE: none, it had a FAULT, there was none yet.", this::notStopped);
    edges.says(8, "The number of the DIVE (what 0), ENTRANT (1) whose NAME stands on THE TAPE (empty then) alone,"
        + " blanks aside.", this::named);
    edges.says(8, "NONE: there is none, another what.", this::namedNone);
  }

  private void newObject() {
    DropTwo x = new DropTwo();
    for (int what = 0; what <= 10; what++) {
      edges.due("look(" + what + ")", 0, x.look(what));
    }
    edges.due("keep", -3, x.keep(0));
    edges.due("undo", -3, x.undo());
    edges.due("fault(0)", 0, x.fault(0));
    edges.due("fault(1)", -1, x.fault(1));
    edges.due("stopped()", -1, x.stopped());
    edges.due("at", -1, x.at(0));
    edges.due("the sheet is empty", 0, x.sheet(-1));
    edges.due("nothing is on it", -1, x.sheet(0));
    edges.due("no meet on an empty tape", -1, x.meet());
    DropTwo y = edges.meet(ONE);
    edges.due("another object has one", 1, y.look(0));
    edges.due("this one has none", 0, x.look(0));
  }

  private void feeds() {
    DropTwo x = edges.meet(ONE.replace("fa", "abcd").replace("ann", "q"));
    // "abcd" in the first number, then in the last one, each byte at its place.
    edges.due("feed", 20, x.feed(0x61626364, 0x20202020, 0x20202020, 0x20202020, 0x20202020));
    edges.due("named", 0, x.named(0));
    edges.due("feed", 20, x.feed(0x20202020, 0x20202020, 0x20202020, 0x20202020, 0x20202061));
    edges.due("feed", 40, x.feed(0x62636420, 0x20202020, 0x20202020, 0x20202020, 0x20202020));
    edges.due("look(10)", 40, x.look(10));
    edges.due("named over two feeds", 0, x.named(0));
    for (int place = 0; place < 17; place++) {
      StringBuilder text = new StringBuilder(" ".repeat(20));
      text.replace(place, place + 4, "abcd");
      Check.feed(x, text.toString());
      edges.due("named at " + place, 0, x.named(0));
    }
    // A byte above 127 makes a number below 0, and is one byte.
    edges.due("feed", 20, x.feed(-1, -1, -1, -1, -1));
    edges.due("a text of 255s", -1, x.meet());
    edges.due("its place", 0, x.fault(1));
    x.feed(0x202020ff, 0, 0, 0, 0);
    x.meet();
    edges.due("behind three blanks", 3, x.fault(1));
    x.feed(5, 6, 7, 8, 9);
    x.end(7);
    edges.due("behind an end", 27, x.feed(0, 0, 0, 0, 0));
  }

  private void feedsNoMore() {
    DropTwo x = new DropTwo();
    for (int i = 1; i <= 60; i++) {
      edges.due("feed", 20 * i, x.feed(0, 0, 0, 0, 0));
    }
    edges.due("a full tape", -1, x.feed(0, 0, 0, 0, 0));
    edges.due("look(10)", 1200, x.look(10));
    edges.isTrue("end(1199)", x.end(1199));
    edges.due("one byte of room", -1, x.feed(0, 0, 0, 0, 0));
    edges.isTrue("end(1181)", x.end(1181));
    edges.due("nineteen bytes of room", -1, x.feed(0, 0, 0, 0, 0));
    edges.due("none came", 1181, x.look(10));
    edges.isTrue("end(1180)", x.end(1180));
    edges.due("twenty bytes of room", 1200, x.feed(0, 0, 0, 0, 0));
    // What did not come is not read either.
    DropTwo y = new DropTwo();
    Check.feed(y, ONE + " ".repeat(1199 - ONE.length()));
    edges.due("a sign that does not come", -1, y.feed(0x3f3f3f3f, 0, 0, 0, 0));
    edges.due("meet", 5, y.meet());
  }

  private void ends() {
    DropTwo x = new DropTwo();
    edges.isTrue("end(0) of an empty tape", x.end(0));
    x.feed(0, 0, 0, 0, 0);
    edges.isTrue("end(20) of twenty", x.end(20));
    edges.due("look(10)", 20, x.look(10));
    edges.isTrue("end(19)", x.end(19));
    edges.due("look(10)", 19, x.look(10));
    edges.isTrue("end(1)", x.end(1));
    edges.due("look(10)", 1, x.look(10));
    edges.isTrue("end(0)", x.end(0));
    edges.due("look(10)", 0, x.look(10));
    DropTwo y = new DropTwo();
    Check.feed(y, ONE + "?");
    edges.isTrue("end", y.end(ONE.length()));
    edges.due("the first bytes alone", 5, y.meet());
    // What was cut off is not read, though it would make a longer number, a longer word.
    Check.feed(y, "rounds 12");
    y.end(8);
    edges.due("rounds 1", -1, y.meet());
    edges.due("the end, not a 12 that can't be", 1, y.fault(0));
    edges.due("the end, not a 12 that can't be", 8, y.fault(1));
    Check.feed(y, "fab");
    y.end(2);
    edges.due("fa", 0, y.named(0));
  }

  private void endsNot() {
    DropTwo x = new DropTwo();
    edges.isTrue("end(1) of an empty tape", !x.end(1));
    x.feed(0, 0, 0, 0, 0);
    for (int n : new int[] {21, 1200, 1201, Integer.MAX_VALUE, -1, -20, Integer.MIN_VALUE}) {
      edges.isTrue("end(" + n + ")", !x.end(n));
      edges.due("look(10)", 20, x.look(10));
    }
    x.end(7);
    edges.isTrue("what was cut off is gone", !x.end(8));
    edges.due("look(10)", 7, x.look(10));
  }

  private void meets() {
    DropTwo x = new DropTwo();
    edges.due("meet", 5, Check.meet(x, ONE));
    edges.due("the tape is empty", 0, x.look(10));
    edges.act(x, "all 5;give;");
    edges.due("over", 1, x.look(8));
    Check.feed(x, BOTH);
    edges.due("ahead of meet() the old one stays", 1, x.look(0));
    x.meet();
    edges.due("the new one", 2, x.look(0));
    edges.due("at its begin", 0, x.board(0));
    edges.due("round", 1, x.board(1));
    edges.due("nothing is given", -1, x.points(0, 1));
    edges.due("no total", 0, x.total(0, 0));
    edges.due("change", 1, x.change(0, 2, 2));
    edges.act(x, "cap 3;balk;all 9;give;out duo;cap 3;balk;all 9;");
    edges.due("the same again", 13, Check.meet(x, BOTH));
    edges.due("the list as told", 1, x.list(0, 2));
    edges.due("who was out is in", 0, x.entrant(1, 2));
    edges.due("no cap", 20, x.board(6));
    edges.due("no balk", 0, x.board(5));
    edges.due("nothing is marked", 0, x.board(3));
    edges.due("none was given", 0, x.entrant(0, 3));
    nothingOfTheOldMeet();
  }

  private void nothingOfTheOldMeet() {
    DropTwo x = edges.meet(BOTH + "law not group=3;law 1=1;cut 1 most 1 anew;form ann 0 0 0 0 0 0;");
    edges.act(x, "all 5;give;all 3;give;");
    edges.due("duo is cut", 1, x.entrant(1, 2));
    edges.due("ann goes on, anew", 0, x.asDrop(1, 0));
    edges.due("rows by the old law", 2, x.ways(0));
    edges.due("the first one", 0, x.way(0, 0, 1));
    edges.due("rows by the old law", 2, x.ways(1));
    edges.due("meet", 14, Check.meet(x, BOTH + "law not group=1;"));
    edges.due("rows by the new law", 2, x.ways(0));
    edges.due("the first one", 1, x.way(0, 0, 1));
    edges.due("rows by the new law", 2, x.ways(1));
    edges.due("the new law", 0, x.law(0, 0, 1));
    edges.due("the new law", 1, x.law(0, 0, 2));
    edges.due("no second one", -1, x.law(1, 0, 2));
    edges.act(x, "all 5;give;all 4;give;");
    edges.due("no cut comes", 2, x.look(9));
    edges.due("not anew", 5 * 300, x.total(0, 0));
    edges.due("not anew", 5 * 300, x.asDrop(1, 0));
    edges.due("by the form not told", 5 * 300 + 8 * 450, x.expected(0));
  }

  private void meetForgets() {
    DropTwo x = edges.meet(ONE);
    x.cap(3);
    x.keep(0);
    x.keep(1);
    Check.meet(x, ONE);
    edges.due("look(7)", 0, x.look(7));
    edges.due("undo", -3, x.undo());
    edges.due("back(0)", -3, x.back(0));
    edges.due("back(1)", -3, x.back(1));
  }

  private void meetStatements() {
    edges.good(5, ONE);
    edges.good(6, ONE + "law 1=1;");
    edges.good(78, EdgesOfMeets.most());
  }

  private void meetFaults() {
    DropTwo x = edges.meet(BOTH + "cut 1 most 1;");
    edges.act(x, "all 5;give;all 6;");
    x.keep(0);
    x.cap(9);
    edges.stays("a meet with a fault", x, () -> {
      edges.due("a fault at the end", -1, Check.meet(x, ONE + "?"));
      edges.due("the tape is empty", 0, x.look(10));
      edges.due("a fault of the whole", -1, Check.meet(x, ONE + "diver bob land 1;"));
      edges.due("an empty tape", -1, x.meet());
    });
    edges.due("the meet is the old one", 2, x.look(0));
    edges.due("names are the old ones", 2, Check.named(x, 0, "re"));
    edges.due("forms are the old ones", 10, x.form(1, 6));
    edges.due("what can be undone stays", 1, x.undo());
    edges.due("what is kept stays", 1, x.back(0));
  }

  private void scripts() {
    DropTwo x = edges.meet(BOTH);
    edges.due("none", 0, Check.script(x, ""));
    edges.due("one", 1, Check.script(x, "cap 9;"));
    edges.due("the tape is empty", 0, x.look(10));
    edges.due("each as often as it was", 27, Check.script(x, "cap 3 times 20;all 2 times 5;balk;give;"));
    edges.due("it is done", 0, x.points(0, 1));
    edges.due("the next one", 1, x.board(0));
  }

  private void scriptFaults() {
    DropTwo x = edges.meet(BOTH);
    edges.due("a fault", -1, Check.script(x, "cap 9;all 21;"));
    edges.due("a fault at the end", -1, Check.script(x, "cap 9"));
    edges.due("of what could not be done either", -1, Check.script(x, "give;?"));
    edges.due("a meet's text", -1, Check.script(x, ONE));
    edges.due("the tape is empty", 0, x.look(10));
  }

  private void scriptNotDone() {
    DropTwo x = edges.meet(BOTH);
    edges.due("the first one", -2, Check.script(x, "give;"));
    edges.due("the last one", -2, Check.script(x, "all 1;balk;give;give;"));
    edges.due("the last time", -2, Check.script(x, "balk times 3;"));
    edges.due("the tape is empty", 0, x.look(10));
    edges.due("without a meet", -2, Check.script(new DropTwo(), "cap 1;"));
  }

  private void scriptStays() {
    DropTwo x = edges.meet(BOTH + "cut 1 most 1 anew;");
    edges.act(x, "cap 7;all 5;give;all 6;");
    x.keep(1);
    edges.stays("a script with a fault", x, () -> Check.script(x, "give;fail;?"));
    edges.stays("a script that can't be done", x, () -> Check.script(x, "give;out duo;give;"));
    edges.due("what can be undone stays", 0, x.undo());
    edges.due("what is kept stays", 1, x.back(1));
    // Twenty acts and a script that fails: all twenty can be undone.
    for (int i = 0; i < 20; i++) {
      x.cap(i);
    }
    edges.due("not done", -2, Check.script(x, "cap 20;give;fail;fail;"));
    for (int i = 19; i >= 1; i--) {
      edges.due("undo", i, x.undo());
      edges.due("the cap", i - 1, x.board(6));
    }
    edges.due("undo", 0, x.undo());
    edges.due("the cap", 20, x.board(6));
  }

  private void faultKinds() {
    DropTwo x = new DropTwo();
    edges.due("ahead of any", 0, x.fault(0));
    Check.meet(x, "rounds 7 drop 0;");
    edges.due("of a meet", 2, x.fault(0));
    Check.script(x, "out ann;");
    edges.due("of a script", 3, x.fault(0));
    Check.script(x, "give;");
    edges.due("none, though it can't be done", 0, x.fault(0));
    Check.meet(x, "");
    edges.due("of a meet", 1, x.fault(0));
    Check.meet(x, "rounds 1 drop 0;");
    edges.due("of a meet", 5, x.fault(0));
    Check.named(x, 0, "?");
    x.feed(0, 0, 0, 0, 0);
    x.end(0);
    edges.due("other calls leave it", 5, x.fault(0));
    Check.meet(x, ONE);
    edges.due("none", 0, x.fault(0));
    Check.script(x, "cap 1;".repeat(61));
    edges.due("of a script", 4, x.fault(0));
    Check.script(x, "");
    edges.due("none", 0, x.fault(0));
  }

  private void faultPlaces() {
    DropTwo x = new DropTwo();
    edges.due("ahead of any", -1, x.fault(1));
    Check.meet(x, "rounds 7 drop 0;");
    edges.due("of a meet", 7, x.fault(1));
    Check.script(x, "out ann;");
    edges.due("of a script", 4, x.fault(1));
    Check.script(x, "give;");
    edges.due("none", -1, x.fault(1));
    Check.meet(x, "");
    edges.due("the first byte", 0, x.fault(1));
    Check.meet(x, " ".repeat(1200));
    edges.due("the end", 1200, x.fault(1));
    Check.meet(x, ONE);
    edges.due("none", -1, x.fault(1));
  }

  private void faultOthers() {
    DropTwo x = new DropTwo();
    edges.beyond("fault", 0, 1, -1, x::fault);
    Check.meet(x, "rounds 7 drop 0;");
    edges.beyond("fault", 0, 1, -1, x::fault);
  }

  private void stopped() {
    DropTwo x = edges.meet(BOTH);
    Check.script(x, "give;");
    edges.due("the first one", 0, x.stopped());
    Check.script(x, "cap 1 times 20;balk times 2;cap 1;");
    edges.due("as they stand, not as often as done", 2, x.stopped());
    Check.script(x, "balk;balk times 2;");
    edges.due("the second time of it", 1, x.stopped());
    Check.script(x, "cap 1;".repeat(59) + "give;");
    edges.due("the last of sixty", 59, x.stopped());
    x.cap(3);
    x.undo();
    edges.due("other calls leave it", 59, x.stopped());
    Check.script(new DropTwo(), "cap 1;");
    edges.due("of this object", 59, x.stopped());
  }

  private void notStopped() {
    DropTwo x = new DropTwo();
    edges.due("there was none yet", -1, x.stopped());
    Check.script(x, "give;");
    edges.due("one could not be done", 0, x.stopped());
    Check.script(x, "give;?");
    edges.due("it had a fault", -1, x.stopped());
    Check.script(x, "give;");
    Check.script(x, "");
    edges.due("none of no acts", -1, x.stopped());
    Check.meet(x, ONE);
    Check.script(x, "balk;give;");
    edges.due("one could not be done", 1, x.stopped());
    Check.script(x, "balk;");
    edges.due("none", -1, x.stopped());
  }

  private void named() {
    DropTwo x = edges.meet(BOTH);
    String[] dives = {"fa", "ba", "re"};
    for (int dive = 0; dive < 3; dive++) {
      edges.due(dives[dive], dive, Check.named(x, 0, dives[dive]));
      edges.due("the tape is empty", 0, x.look(10));
    }
    edges.due("ann", 0, Check.named(x, 1, "ann"));
    edges.due("duo", 1, Check.named(x, 1, "duo"));
    edges.due("blanks", 1, Check.named(x, 1, "\n duo \n "));
    edges.due("blanks up to the end", 1, Check.named(x, 1, " ".repeat(1197) + "duo"));
    edges.due("blanks up to the end", 1, Check.named(x, 1, "duo" + "\n".repeat(1197)));
    edges.due("a name that is not there", -1, Check.named(x, 0, "duo"));
    edges.due("the tape is empty", 0, x.look(10));
    // Who is out has its name still.
    edges.act(x, "out duo;");
    edges.due("duo", 1, Check.named(x, 1, "duo"));
  }

  private void namedNone() {
    DropTwo x = edges.meet(BOTH);
    edges.due("an entrant's name as a dive's", -1, Check.named(x, 0, "ann"));
    edges.due("a dive's name as an entrant's", -1, Check.named(x, 1, "fa"));
    for (String text : new String[] {
        "", " ", "zz", "f", "faa", "f a", "fa fa", "fa ba", "fa;", ";fa", "1", "fa1", "1fa", "Fa", "dive", "fa?", "abcdefgh"
    }) {
      edges.due("named " + text, -1, Check.named(x, 0, text));
    }
    for (int what : new int[] {-1, 2, Integer.MIN_VALUE, Integer.MAX_VALUE}) {
      edges.due("another what " + what, -1, Check.named(x, what, "fa"));
      edges.due("another what " + what, -1, Check.named(x, what, "ann"));
    }
    DropTwo a = edges.meet(ONE.replace("fa", "a").replace("ann", "b"));
    for (String text : new String[] {"", " ", "?", "7", "give", "aa", "a a", "a b", "b a", "b", "a?", "a 1"}) {
      edges.due("named " + text, -1, Check.named(a, 0, text));
    }
    edges.due("without a meet", -1, Check.named(new DropTwo(), 0, "fa"));
    edges.due("without a meet", -1, Check.named(new DropTwo(), 1, ""));
  }
}
