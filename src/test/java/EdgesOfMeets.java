/** Terms ==== 1: the tape's texts, and what a meet's statements may tell. */
final class EdgesOfMeets {
  /** Five statements: as little as a meet can be. */
  static final String ONE =
      "rounds 1 drop 0;judge land 1;dive fa group 1 degree 20;diver ann land 1;list ann fa;";
  /** Two rounds, but no list yet: six statements. */
  static final String TWO =
      "rounds 2 drop 1;judge land 1;dive fa group 1 degree 20;dive ba group 2 degree 30;"
          + "dive re group 3 degree 25;diver ann land 1;";
  static final String[] WORDS = {
    "rounds", "drop", "judge", "land", "first", "second", "together", "dive", "group", "degree",
    "diver", "pair", "list", "form", "law", "cut", "most", "anew", "or", "and", "not", "round", "sum",
    "seen", "unlike", "times", "marks", "all", "balk", "cap", "half", "fail", "give", "out"
  };

  private final Edges edges;

  EdgesOfMeets(Edges edges) {
    this.edges = edges;
  }

  void all() {
    edges.says(0, "An object is used for at most 512 calls after it has been made; what later calls answer is free.",
        this::calls);
    edges.says(0, "A TEXT is on THE TAPE (1,200 bytes at most):", this::longestText);
    edges.says(0, "blanks (32, 10) between where one likes.", this::blanks);
    edges.says(0, "WORDS: letters a .. z that stand together;", this::words);
    edges.says(0, "NAMES: WORDS of 1 to 7 letters", this::nameLengths);
    edges.says(0, "that are none of those that the languages have (all of both, as told below).", this::nameWords);
    edges.says(0, "N: 1 to 4 digits that stand together.", this::numbers);
    edges.says(0, "A MEET: STATEMENT \";\" { STATEMENT \";\" }, 80 at most.", this::statements);
    edges.says(0, "STATEMENT: rounds N drop N | judge land N [ first | second | together ]"
        + " | dive NAME group N degree N | (diver | pair) NAME land N | list NAME NAME { NAME }"
        + " | form NAME N N N N N N | law TEST | cut N most N [ anew ].", this::shapes);
    edges.says(0, "ROUNDS 1 .. 6,", this::rounds);
    edges.says(0, "DROP 0 .. 3:", this::drops);
    edges.says(0, "the first STATEMENT, and it alone (another one first, a second one of these: FAULT 1 at its begin).",
        this::firstStatement);
    edges.says(0, "JUDGES 0 on (11 at most),", this::judges);
    edges.says(0, "LANDS 0 .. 7,", this::lands);
    edges.says(0, "SORTS: 0 (no word) of divers; 1 first, 2 second, 3 together of pairs.", this::sorts);
    edges.says(0, "DIVES 0 on (10 at most):", this::dives);
    edges.says(0, "GROUPS 1 .. 6,", this::groups);
    edges.says(0, "DEGREES 10 .. 60.", this::degrees);
    edges.says(0, "ENTRANTS 0 on (6 at most).", this::entrants);
    edges.says(0, "A LIST: of an ENTRANT told ahead", this::listEntrants);
    edges.says(0, "just as many DIVES told ahead as there are ROUNDS,", this::listDives);
    edges.says(0, "none twice", this::listTwice);
    edges.says(0, "(fewer, more: FAULT 1 at the ; or at the NAME too many);", this::listLengths);
    edges.says(0, "one of each ENTRANT.", this::oneList);
    edges.says(0, "FORM: of an ENTRANT told ahead by GROUPS 0 .. 20", this::forms);
    edges.says(0, "(10 each, if not told; the last one told counts).", this::formsNotTold);
    edges.says(0, "LAWS 0 on (6 at most).", this::laws);
    edges.says(0, "CUTS 0 on (3 at most):", this::cuts);
    edges.says(0, "behind a ROUND (1 to one less than ROUNDS, greater than that of the CUT ahead)", this::cutRounds);
    edges.says(0, "1 .. 5 go on.", this::cutMosts);
  }

  /** A meet of so many rounds, with a diver and as many dives, and statements behind. */
  static String rounds(int rounds, int drop, String behind) {
    StringBuilder text = new StringBuilder("rounds " + rounds + " drop " + drop + ";judge land 1;");
    StringBuilder list = new StringBuilder("list ann");
    for (int round = 0; round < rounds; round++) {
      char name = (char) ('a' + round);
      text.append("dive ").append(name).append(" group 1 degree 20;");
      list.append(' ').append(name);
    }
    return text + "diver ann land 1;" + list + ";" + behind;
  }

  private void calls() {
    DropTwo x = new DropTwo();
    for (int i = 0; i < 60; i++) {
      x.feed(0, 0, 0, 0, 0);
    }
    x.end(0);
    Check.meet(x, ONE);
    // Those were 61 calls, and 8 with meet(): 443 are left.
    for (int i = 0; i < 220; i++) {
      edges.due("cap", i % 2 == 0 ? 20 : 3, x.cap(i % 2 == 0 ? 3 : 20));
      edges.due("look(7)", Math.min(20, i + 1), x.look(7));
    }
    edges.due("board(6), the 510th call", 20, x.board(6));
    edges.due("mark, the 511th call", 1, x.mark(0, 20));
    edges.due("give, the 512th call", 20 * 15 * 20, x.give());
  }

  private void longestText() {
    edges.good(5, ONE + " ".repeat(1200 - ONE.length()));
    String open = ONE.substring(0, ONE.length() - 1);
    edges.good(5, open + " ".repeat(1199 - open.length()) + ";");
    edges.fault(1, ONE + " ".repeat(1199 - ONE.length()) + "^x");
    edges.fault(1, open + " ".repeat(1200 - open.length()) + "^");
    edges.fault(1, " ".repeat(1199) + "^7");
    edges.fault(1, " ".repeat(1194) + "rounds^");
    edges.fault(1, "rounds" + " ".repeat(1193) + "1^");
    DropTwo x = new DropTwo();
    edges.isTrue("1,201 bytes don't go on it", !Check.feed(x, ONE + " ".repeat(1201 - ONE.length())));
  }

  private void blanks() {
    edges.good(5, ONE.replace(" ", "\n"));
    edges.good(5, ONE.replace(" ", " \n\n "));
    edges.good(5, "\n " + ONE.replace(";", " \n;\n ") + " \n");
    edges.good(5, "rounds1drop0;judge land1;dive fa group1degree20;diver ann land1;list ann fa;");
    for (int sign : new int[] {0, 9, 11, 12, 13, 31, 33, 42, 127, 128, 138, 160, 255}) {
      edges.fault(1, "rounds^" + (char) sign + "1 drop 0;");
      edges.fault(1, "^" + (char) sign + ONE);
      edges.fault(1, ONE + "^" + (char) sign);
    }
  }

  private void words() {
    edges.fault(1, "^roun ds 1 drop 0;");
    edges.fault(1, "^round\ns 1 drop 0;");
    edges.fault(1, "^roundsdrop 1;");
    edges.fault(1, "^Rounds 1 drop 0;");
    edges.fault(1, "^ROUNDS 1 drop 0;");
    edges.fault(1, "rounds 1 drop 0;judge^`land 1;");
    edges.fault(1, "rounds 1 drop 0;judge^{land 1;");
    edges.fault(1, "rounds 1 drop 0;dive f^A group 1 degree 20;");
    edges.fault(1, "rounds 1 drop 0;dive f^Z group 1 degree 20;");
    edges.fault(1, "rounds 1 drop 0;dive f^\u00e1 group 1 degree 20;");
    edges.fault(1, "rounds 1 drop 0;dive f^_a group 1 degree 20;");
    edges.good(5, ONE.replace("fa", "az").replace("ann", "za"));
  }

  private void nameLengths() {
    for (String name : new String[] {"a", "z", "ab", "abcdefg", "zzzzzzz"}) {
      DropTwo x = edges.meet(ONE.replace("fa", name).replace("ann", "q"));
      edges.due("named " + name, 0, Check.named(x, 0, name));
      DropTwo y = edges.meet(ONE.replace("ann", name));
      edges.due("named " + name, 0, Check.named(y, 1, name));
    }
    for (String name : new String[] {"abcdefgh", "zzzzzzzz", "abcdefghijklm", "a".repeat(200)}) {
      edges.fault(1, "rounds 1 drop 0;dive ^" + name + " group 1 degree 20;");
      edges.fault(1, "rounds 1 drop 0;diver ^" + name + " land 1;");
      edges.fault(1, "rounds 1 drop 0;pair ^" + name + " land 1;");
      edges.fault(1, TWO + "list ^" + name + " fa ba;");
      edges.fault(1, TWO + "list ann ^" + name + " ba;");
      edges.fault(1, TWO + "form ^" + name + " 1 1 1 1 1 1;");
    }
    // Names are told apart by all of their seven letters.
    DropTwo x = edges.meet(ONE.replace("fa", "abcdefg") + "dive abcdefh group 1 degree 20;dive zbcdefg group 1 degree 20;");
    edges.due("by the last letter", 1, Check.named(x, 0, "abcdefh"));
    edges.due("by the first letter", 2, Check.named(x, 0, "zbcdefg"));
    edges.due("a part of one", -1, Check.named(x, 0, "abcdef"));
  }

  private void nameWords() {
    for (String word : WORDS) {
      edges.fault(1, "rounds 1 drop 0;dive ^" + word + " group 1 degree 20;");
      edges.fault(1, "rounds 1 drop 0;diver ^" + word + " land 1;");
      edges.fault(1, "rounds 1 drop 0;pair ^" + word + " land 1;");
      edges.fault(1, TWO + "list ^" + word + " fa ba;");
      edges.fault(1, TWO + "list ann ^" + word + " ba;");
      edges.fault(1, TWO + "form ^" + word + " 1 1 1 1 1 1;");
      String less = word.substring(0, word.length() - 1);
      String name = less.equals("round") || less.equals("dive") ? "rest" : less;
      edges.good(5, ONE.replace("fa", name));
    }
    // Words that stand only in the document's text are names.
    for (String name : new String[] {"test", "both", "fact", "value", "term", "sign", "act", "name", "text", "n"}) {
      edges.good(5, ONE.replace("fa", name));
    }
  }

  private void numbers() {
    edges.good(5, ONE.replace("rounds 1", "rounds 0001").replace("drop 0", "drop 0000"));
    edges.good(5, ONE.replace("degree 20", "degree 020"));
    edges.good(6, ONE + "law 9999 = 9999;");
    edges.fault(1, "rounds ^00001 drop 0;");
    edges.fault(1, "rounds 1 drop ^00000;");
    edges.fault(1, ONE + "law 1 < ^10000;");
    edges.fault(1, ONE + "law 1 < ^" + "1".repeat(300) + ";");
    edges.fault(1, "rounds ^drop 0;");
    edges.fault(1, "rounds 1 ^1 drop 0;");
    edges.fault(1, "rounds 1^/ drop 0;");
    edges.fault(1, "rounds 1^: drop 0;");
    edges.fault(1, "rounds ^/1 drop 0;");
    edges.fault(1, "rounds ^:1 drop 0;");
    edges.fault(1, "rounds ^-1 drop 0;");
  }

  private void statements() {
    edges.fault(1, "^");
    edges.fault(1, "^;");
    edges.fault(1, "rounds 1 drop 0^");
    edges.fault(1, ONE + "^;");
    edges.fault(1, ONE.substring(0, ONE.length() - 1) + "^");
    edges.fault(1, ONE.replace("drop 0;", "drop 0 ^"));
    edges.fault(1, ONE.replace("drop 0;", "drop 0^,"));
    edges.fault(1, ONE.replace("drop 0;", "drop 0^:"));
    edges.good(5, ONE);
    edges.good(78, most());
    edges.fault(1, most() + "form^");
    edges.fault(1, most() + "^?");
  }

  /** As many statements as 1,200 bytes have room for: 78 of 80. */
  static String most() {
    StringBuilder text = new StringBuilder("rounds1drop0;dive a group1degree10;");
    for (int i = 0; i < 11; i++) {
      text.append("judge land0;");
    }
    for (char name = 'b'; name <= 'g'; name++) {
      text.append("diver ").append(name).append(" land0;list ").append(name).append(" a;law1=1;");
    }
    for (int i = 0; i < 47; i++) {
      text.append("form b1 1 1 1 1 1;");
    }
    return text.toString();
  }

  /** Each piece of each statement is needed where it stands, and nothing else may stand there. */
  private void shapes() {
    String[] wholes = {
      "judge land 1 ;", "judge land 1 first ;", "judge land 1 second ;", "judge land 1 together ;",
      "dive tw group 1 degree 20 ;", "diver bob land 1 ;", "pair bob land 1 ;", "list ann fa ba ;",
      "form ann 1 2 3 4 5 6 ;", "law round = 1 ;", "cut 1 most 2 ;", "cut 1 most 2 anew ;"
    };
    for (String whole : wholes) {
      shape(TWO, whole);
    }
    shape("", "rounds 2 drop 1 ;");
    edges.good(20, TWO + "judge land 1;judge land 1 first;judge land 1 second;judge land 1 together;"
        + "dive tw group 1 degree 20;diver bob land 1;pair cy land 1;list ann fa ba;list bob fa ba;"
        + "list cy fa ba;form ann 1 2 3 4 5 6;law round > 0;cut 1 most 2 anew;law round < 9;");
    edges.fault(1, TWO + "judge land 1 first ^second;");
    edges.fault(1, TWO + "judge land 1 ^anew;");
    edges.fault(1, TWO + "cut 1 most 2 anew ^anew;");
    edges.fault(1, TWO + "diver bob ^group 1;");
  }

  private void shape(String ahead, String whole) {
    String[] pieces = whole.split(" ");
    StringBuilder text = new StringBuilder(ahead);
    for (int i = 0; i < pieces.length; i++) {
      edges.fault(1, text + "^?");
      edges.fault(1, text + "^? " + pieces[i]);
      // Where a statement may begin a text may end, too; but this one lacks a list.
      edges.fault(i == 0 && !ahead.isEmpty() ? 5 : 1, text + "^");
      text.append(pieces[i]).append(' ');
    }
  }

  private void rounds() {
    for (int rounds = 1; rounds <= 6; rounds++) {
      DropTwo x = edges.meet(rounds(rounds, 0, ""));
      edges.due("look(0)", rounds, x.look(0));
    }
    edges.fault(2, "rounds ^0 drop 0;");
    edges.fault(2, "rounds ^7 drop 0;");
    edges.fault(2, "rounds ^9999 drop 0;");
  }

  private void drops() {
    for (int drop = 0; drop <= 3; drop++) {
      DropTwo x = edges.meet(rounds(1, drop, ""));
      edges.due("look(1)", drop, x.look(1));
    }
    edges.fault(2, "rounds 1 drop ^4;");
    edges.fault(2, "rounds 1 drop ^9999;");
  }

  private void firstStatement() {
    String[] others = {
      "judge land 1;", "dive fa group 1 degree 20;", "diver ann land 1;", "pair ann land 1;", "list ann fa;",
      "form ann 1 1 1 1 1 1;", "law 1 = 1;", "cut 1 most 1;"
    };
    for (String other : others) {
      edges.fault(1, "^" + other + "rounds 1 drop 0;");
      edges.fault(1, " \n^" + other);
    }
    edges.fault(1, "rounds 1 drop 0;^rounds 1 drop 0;");
    edges.fault(1, ONE + " ^rounds 1 drop 0;");
    edges.fault(1, ONE + "^rounds 7;");
  }

  private void judges() {
    String ten = "";
    for (int judge = 0; judge < 10; judge++) {
      ten += "judge land " + judge % 8 + ";";
    }
    DropTwo x = edges.meet(ONE + ten);
    edges.due("look(2)", 11, x.look(2));
    edges.due("the first one", 1, x.judge(0, 0));
    edges.due("the last one", 9 % 8, x.judge(10, 0));
    edges.due("one more", -1, x.judge(11, 0));
    edges.due("all of them judge", 11, x.board(4));
    edges.fault(4, ONE + ten + "^judge land 1;");
    edges.fault(4, ONE + ten + " ^judge land 1 first;");
  }

  private void lands() {
    DropTwo x = edges.meet("rounds 1 drop 0;judge land 0;judge land 7;dive fa group 1 degree 20;"
        + "diver ann land 0;diver bob land 7;list ann fa;list bob fa;");
    edges.due("a judge's", 0, x.judge(0, 0));
    edges.due("a judge's", 7, x.judge(1, 0));
    edges.due("an entrant's", 0, x.entrant(0, 1));
    edges.due("an entrant's", 7, x.entrant(1, 1));
    edges.fault(2, "rounds 1 drop 0;judge land ^8;");
    edges.fault(2, "rounds 1 drop 0;judge land ^9999;");
    edges.fault(2, "rounds 1 drop 0;diver ann land ^8;");
    edges.fault(2, "rounds 1 drop 0;pair ann land ^8;");
  }

  private void sorts() {
    DropTwo x = edges.meet("rounds 1 drop 0;judge land 1 together;judge land 1 second;judge land 1 first;"
        + "judge land 1;dive fa group 1 degree 20;diver ann land 1;pair duo land 1;list ann fa;list duo fa;");
    for (int judge = 0; judge < 4; judge++) {
      edges.due("judge(" + judge + ", 1)", 3 - judge, x.judge(judge, 1));
    }
    edges.due("a diver has those of sort 0", 1, x.board(4));
    edges.act(x, "fail;give;");
    edges.due("a pair has the others", 3, x.board(4));
    edges.fault(1, "rounds 1 drop 0;judge land 1 ^third;");
    edges.fault(1, "rounds 1 drop 0;judge land 1 ^0;");
  }

  private static String dives(int count) {
    StringBuilder text = new StringBuilder();
    for (int dive = 0; dive < count; dive++) {
      text.append("dive d").append((char) ('a' + dive)).append(" group 1 degree ").append(20 + dive).append(';');
    }
    return text.toString();
  }

  private void dives() {
    DropTwo x = edges.meet(ONE + dives(9));
    edges.due("look(3)", 10, x.look(3));
    edges.due("the first one", 20, x.dive(0, 1));
    edges.due("the last one", 28, x.dive(9, 1));
    edges.due("one more", -1, x.dive(10, 1));
    edges.due("ways", 10, x.ways(0));
    edges.fault(4, ONE + dives(9) + "^dive zz group 1 degree 20;");
    edges.fault(4, ONE + dives(9) + "\n^dive fa;");
  }

  private void groups() {
    for (int group = 1; group <= 6; group++) {
      DropTwo x = edges.meet(ONE.replace("group 1", "group " + group));
      edges.due("dive(0, 0)", group, x.dive(0, 0));
    }
    edges.fault(2, "rounds 1 drop 0;dive fa group ^0 degree 20;");
    edges.fault(2, "rounds 1 drop 0;dive fa group ^7 degree 20;");
  }

  private void degrees() {
    for (int degree = 10; degree <= 60; degree += 25) {
      DropTwo x = edges.meet(ONE.replace("degree 20", "degree " + degree));
      edges.due("dive(0, 1)", degree, x.dive(0, 1));
    }
    edges.fault(2, "rounds 1 drop 0;dive fa group 1 degree ^9;");
    edges.fault(2, "rounds 1 drop 0;dive fa group 1 degree ^61;");
    edges.fault(2, "rounds 1 drop 0;dive fa group 1 degree ^0;");
  }

  private static String entrants(int count) {
    StringBuilder text = new StringBuilder("judge land 1 first;judge land 1 second;judge land 1 together;");
    for (int i = 0; i < count; i++) {
      char name = (char) ('u' + i);
      text.append(i % 2 == 0 ? "pair " : "diver ").append(name).append(" land ").append(i);
      text.append(";list ").append(name).append(" fa;");
    }
    return text.toString();
  }

  private void entrants() {
    DropTwo x = edges.meet(ONE + entrants(5));
    edges.due("look(4)", 6, x.look(4));
    edges.due("the first one", 1, x.entrant(0, 1));
    edges.due("the last one", 4, x.entrant(5, 1));
    edges.due("the last one", 1, x.entrant(5, 0));
    edges.due("one more", -1, x.entrant(6, 1));
    // All six dive, each in its turn, over a cut; and all are looked at.
    DropTwo six = edges.meet(sixDivers("cut 1 most 5;"));
    for (int entrant = 0; entrant < 6; entrant++) {
      edges.due("at the board", entrant, six.board(0));
      edges.act(six, "all " + (6 - entrant) + ";give;");
    }
    edges.due("five go on", 5, six.look(9));
    edges.due("the sixth is cut", 1, six.entrant(5, 2));
    edges.due("the fifth is the next one", 4, six.board(0));
    edges.due("dives of judge 0", 6, six.bias(0, 0));
    edges.due("dives of no other land", 0, six.bias(0, 2));
    edges.due("marked alike", 6, six.alike(0, 1));
    edges.due("kept", 6, six.dropped(0, 2));
    edges.due("would the first one win, who leads by one", 1, Math.min(1, six.wins(0, 40, 0)));
    edges.fault(4, ONE + entrants(5) + "^diver zz land 1;");
    edges.fault(4, ONE + entrants(5) + "^pair zz land 1;");
    edges.fault(4, ONE + entrants(5) + "^diver ann;");
  }

  private static String sixDivers(String behind) {
    StringBuilder text = new StringBuilder(
        "rounds 2 drop 0;judge land 1;judge land 1;dive fa group 1 degree 20;dive ba group 1 degree 20;");
    for (char name = 'u'; name < 'u' + 6; name++) {
      text.append("diver ").append(name).append(" land 1;list ").append(name).append(" fa ba;");
    }
    return text + behind;
  }

  private void listEntrants() {
    edges.fault(3, TWO + "list ^bob fa ba;diver bob land 1;");
    edges.fault(3, TWO + "list ^fa fa ba;");
    edges.good(9, TWO + "list ann fa ba;diver bob land 1;list bob ba fa;");
  }

  private void listDives() {
    edges.fault(3, TWO + "list ann fa ^tw;dive tw group 1 degree 20;");
    edges.fault(3, TWO + "list ann ^ann fa;");
    edges.good(8, TWO + "dive tw group 1 degree 20;list ann fa tw;");
    for (int rounds = 1; rounds <= 6; rounds++) {
      edges.good(2 * 2 + rounds, rounds(rounds, 0, ""));
    }
  }

  private void listTwice() {
    edges.fault(3, TWO + "list ann fa ^fa;");
    edges.fault(3, rounds(6, 0, "diver bob land 1;list bob a b c d e ^a;"));
    edges.good(9, TWO + "list ann fa ba;diver bob land 1;list bob fa ba;");
  }

  private void listLengths() {
    edges.fault(1, TWO + "list ann^;");
    edges.fault(1, TWO + "list ann fa^;");
    edges.fault(1, TWO + "list ann fa \n^;");
    edges.fault(1, TWO + "list ann fa ba ^re;");
    edges.fault(1, TWO + "list ann fa ba ^re re re;");
    edges.fault(1, rounds(6, 0, "diver bob land 1;list bob a b c d e^;"));
    edges.fault(1, rounds(6, 0, "dive g group 1 degree 20;diver bob land 1;list bob a b c d e f ^g;"));
  }

  private void oneList() {
    edges.fault(3, TWO + "list ann fa ba;list ^ann fa ba;");
    edges.fault(3, TWO + "list ann fa ba;list ^ann;");
    edges.fault(5, TWO + "^");
  }

  private void forms() {
    DropTwo x = edges.meet(ONE + "form ann 0 20 1 19 0 20;");
    int[] due = {0, 20, 1, 19, 0, 20};
    for (int group = 1; group <= 6; group++) {
      edges.due("form(0, " + group + ")", due[group - 1], x.form(0, group));
    }
    edges.fault(2, ONE + "form ann ^21 0 0 0 0 0;");
    edges.fault(2, ONE + "form ann 0 0 0 0 0 ^21;");
    edges.fault(1, ONE + "form ann 0 0 0 0 0^;");
    edges.fault(1, ONE + "form ann 0 0 0 0 0 0 ^0;");
    edges.fault(3, ONE + "form ^bob 0 0 0 0 0 0;diver bob land 1;");
    edges.good(6, ONE.replace("list", "form ann 0 0 0 0 0 0;list"));
  }

  private void formsNotTold() {
    DropTwo x = edges.meet(ONE + "diver bob land 1;list bob fa;form ann 1 2 3 4 5 6;form ann 6 5 4 3 2 0;");
    int[] due = {6, 5, 4, 3, 2, 0};
    for (int group = 1; group <= 6; group++) {
      edges.due("form(0, " + group + ")", due[group - 1], x.form(0, group));
      edges.due("form(1, " + group + ")", 10, x.form(1, group));
    }
    Check.meet(x, ONE);
    edges.due("of another meet", 10, x.form(0, 1));
  }

  private void laws() {
    String six = "law 1 = 1;law 1 = 1;law 1 = 1;law 1 = 1;law 1 = 1;law 1 = 2;";
    DropTwo x = edges.meet(ONE + six);
    edges.due("look(5)", 6, x.look(5));
    edges.due("the first one", 1, x.law(0, 0, 1));
    edges.due("the last one", 0, x.law(5, 0, 1));
    edges.due("one more", -1, x.law(6, 0, 1));
    edges.fault(4, ONE + six + "^law 1 = 1;");
    edges.fault(4, ONE + six + "^law;");
  }

  private void cuts() {
    String three = rounds(6, 0, "cut 1 most 1;cut 2 most 2;cut 4 most 3;");
    DropTwo x = edges.meet(three);
    edges.due("look(6)", 3, x.look(6));
    edges.due("the first one", 1, x.cut(0, 1));
    edges.due("the last one", 3, x.cut(2, 1));
    edges.due("one more", -1, x.cut(3, 1));
    // Played: ann alone goes on at each of them, and none comes behind the others.
    for (int round = 1; round <= 6; round++) {
      edges.due("goes", round <= 4 ? 1 : -1, x.goes(0));
      edges.act(x, "all 5;give;");
    }
    edges.due("over", 1, x.look(8));
    edges.due("ann is in", 0, x.entrant(0, 2));
    edges.fault(4, three + "^cut 5 most 1;");
    edges.fault(4, three + "^cut 0;");
  }

  private void cutRounds() {
    edges.fault(2, rounds(1, 0, "cut ^1 most 1;"));
    edges.fault(2, rounds(2, 0, "cut ^0 most 1;"));
    edges.fault(2, rounds(2, 0, "cut ^2 most 1;"));
    edges.fault(2, rounds(6, 0, "cut ^6 most 1;"));
    edges.good(2 * 2 + 2 + 1, rounds(2, 0, "cut 1 most 1;"));
    edges.good(2 * 2 + 6 + 3, rounds(6, 0, "cut 3 most 1;cut 4 most 1;cut 5 most 1;"));
    edges.fault(2, rounds(6, 0, "cut 3 most 1;cut ^3 most 1;"));
    edges.fault(2, rounds(6, 0, "cut 3 most 1;cut ^2 most 1;"));
    edges.fault(2, rounds(6, 0, "cut 5 most 1;cut ^6 most 1;"));
  }

  private void cutMosts() {
    for (int most = 1; most <= 5; most++) {
      DropTwo x = edges.meet(rounds(2, 0, "cut 1 most " + most + ";"));
      edges.due("cut(0, 1)", most, x.cut(0, 1));
    }
    edges.fault(2, rounds(2, 0, "cut 1 most ^0;"));
    edges.fault(2, rounds(2, 0, "cut 1 most ^6;"));
  }
}
