/** Promises 4, 5, 6: the faults of texts. In a text here ^ stands ahead of the fault's place. */
public final class FaultsTest {
  private static final Check CHECK = new Check("faults");
  private static final String HEAD = "rounds 2 drop 1;";
  private static final String FULL =
      "rounds 2 drop 1;judge land 1;dive fa group 1 degree 20;dive ba group 2 degree 30;"
          + "dive re group 3 degree 25;diver ann land 1;";

  public static void main(String[] args) {
    begins();
    statements();
    names();
    lists();
    formsAndCuts();
    laws();
    tooMany();
    wholes();
    scripts();
    staying();
    endings();
    CHECK.finish();
  }

  private static void meetFault(int kind, String text) {
    DropTwo x = new DropTwo();
    CHECK.due("meet of " + text, -1, Check.meet(x, text.replace("^", "")));
    CHECK.due("fault(0) of " + text, kind, x.fault(0));
    CHECK.due("fault(1) of " + text, text.indexOf('^'), x.fault(1));
    CHECK.due("fault(2) of " + text, -1, x.fault(2));
    CHECK.due("look(0) of " + text, 0, x.look(0));
    CHECK.due("look(10) of " + text, 0, x.look(10));
  }

  private static void meetGood(int statements, String text) {
    DropTwo x = new DropTwo();
    CHECK.due("meet of " + text, statements, Check.meet(x, text));
    CHECK.due("fault(0) of " + text, 0, x.fault(0));
    CHECK.due("fault(1) of " + text, -1, x.fault(1));
  }

  private static void begins() {
    meetFault(1, "^");
    meetFault(1, "  \n ^");
    meetFault(1, "^judge land 1;");
    meetFault(1, "^fa;");
    meetFault(1, "^;");
    meetFault(1, HEAD + "^rounds 2 drop 1;");
    meetFault(1, HEAD + "^;");
    meetFault(1, HEAD + "^give;");
    meetFault(1, HEAD + "^nothing;");
    meetFault(1, HEAD + "^Judge land 1;");
    meetFault(1, HEAD + "^drop 1;");
    meetFault(1, HEAD + "judge land 1;^judgeland 1;");
    meetFault(1, "rounds 2 drop 1^");
    meetFault(1, "rounds 2 drop 1 ^judge land 1;");
  }

  private static void statements() {
    meetFault(1, "rounds ^drop 1;");
    meetFault(2, "rounds ^0 drop 1;");
    meetFault(2, "rounds ^7 drop 1;");
    meetFault(2, "rounds 6 drop ^4;");
    meetFault(1, "rounds ^00001 drop 1;");
    meetFault(2, "rounds ^9999 drop 1;");
    meetFault(1, "rounds 1 ^1;");
    meetFault(1, HEAD + "judge ^1;");
    meetFault(2, HEAD + "judge land ^8;");
    meetFault(1, HEAD + "judge land 1 ^third;");
    meetFault(1, HEAD + "judge land 1 first ^second;");
    meetFault(1, HEAD + "dive ^1;");
    meetFault(1, HEAD + "dive fa ^degree 20;");
    meetFault(2, HEAD + "dive fa group ^0 degree 20;");
    meetFault(2, HEAD + "dive fa group ^7 degree 20;");
    meetFault(2, HEAD + "dive fa group 6 degree ^9;");
    meetFault(2, HEAD + "dive fa group 6 degree ^61;");
    meetFault(2, HEAD + "diver ann land ^8;");
    meetFault(1, HEAD + "pair ann ^7;");
    meetFault(1, HEAD + "judge land 1\t;".replace("\t", "^\t"));
    meetFault(1, HEAD + "judge land ^\u00e9;");
  }

  private static void names() {
    meetFault(1, HEAD + "dive ^toolongg group 1 degree 20;");
    meetFault(1, HEAD + "dive ^together group 1 degree 20;");
    meetFault(1, HEAD + "dive ^togethertogether group 1 degree 20;");
    meetFault(1, HEAD + "dive ^marks group 1 degree 20;");
    meetFault(1, HEAD + "dive ^times group 1 degree 20;");
    meetFault(1, HEAD + "diver ^unlike land 1;");
    meetFault(1, HEAD + "pair ^out land 1;");
    meetFault(3, FULL + "dive ^fa group 1 degree 20;");
    meetFault(3, FULL + "dive ^ann group 1 degree 20;");
    meetFault(3, FULL + "diver ^ann land 1;");
    meetFault(3, FULL + "pair ^ba land 1;");
    meetGood(7, FULL.replace("ann", "longest") + "list longest fa re;");
    meetGood(7, FULL.replace("ann", "mark") + "list mark fa re;");
    meetGood(7, FULL.replace("ann", "x") + "list x fa re;");
  }

  private static void lists() {
    meetFault(3, FULL + "list ^bob fa ba;");
    meetFault(3, FULL + "list ^fa fa ba;");
    meetFault(1, FULL + "list ^1 fa ba;");
    meetFault(3, FULL + "list ann ^zz ba;");
    meetFault(3, FULL + "list ann ^ann ba;");
    meetFault(3, FULL + "list ann fa ^fa;");
    meetFault(1, FULL + "list ann fa^;");
    meetFault(1, FULL + "list ann^;");
    meetFault(1, FULL + "list ann fa ^");
    meetFault(1, FULL + "list ann fa ^1;");
    meetFault(1, FULL + "list ann fa ba ^re;");
    meetFault(1, FULL + "list ann fa ba ^fa;");
    meetFault(1, FULL + "list ann fa ba ^zz;");
    meetFault(1, FULL + "list ann fa ba ^1;");
    meetFault(3, FULL + "list ann fa ba;list ^ann ba fa;");
    meetFault(3, HEAD + "diver ann land 1;list ann ^fa ba;");
    meetGood(7, FULL + "list ann re fa;");
    meetGood(7, FULL.replace(" ", "\n ") + "\n list ann re fa ; \n");
    meetGood(7, FULL.replaceAll("(\\d) ", "$1").replaceAll(" (\\d)", "$1") + "list ann re fa;");
  }

  private static void formsAndCuts() {
    String good = FULL + "list ann fa ba;";
    meetFault(3, FULL + "form ^bob 1 1 1 1 1 1;");
    meetFault(1, good + "form ann 1 1 1 1 1^;");
    meetFault(1, good + "form ann 1 1 1 1 1 1 ^1;");
    meetFault(2, good + "form ann 1 1 1 1 1 ^21;");
    meetGood(9, good + "form ann 0 20 1 1 1 1;form ann 1 1 1 1 1 1;");
    meetFault(2, good + "cut ^0 most 1;");
    meetFault(2, good + "cut ^2 most 1;");
    meetFault(2, good + "cut 1 most ^0;");
    meetFault(2, good + "cut 1 most ^6;");
    meetFault(1, good + "cut 1 ^1;");
    meetFault(1, good + "cut 1 most 1 anew ^anew;");
    meetFault(2, good + "cut 1 most 5;cut ^1 most 1;");
    meetFault(2, "rounds 1 drop 0;cut ^1 most 1;");
    meetGood(8, good + "cut 1 most 5 anew;");
  }

  private static void laws() {
    meetFault(1, HEAD + "law^;");
    meetFault(1, HEAD + "law 1^;");
    meetFault(1, HEAD + "law 1 < ^;");
    meetFault(1, HEAD + "law 1 < 2 ^< 3;");
    meetFault(1, HEAD + "law ( 1 ^< 2 ) = 1;");
    meetFault(1, HEAD + "law [ 1 < 2 ^;");
    meetFault(1, HEAD + "law [ 1 ^] < 2;");
    meetFault(1, HEAD + "law ( 1 < 2".replace("<", "^<") + ";");
    meetFault(1, HEAD + "law ^fa = 1;");
    meetFault(1, HEAD + "law ^drop = 1;");
    meetFault(1, HEAD + "law 1 + ^- 2 = 1;");
    meetFault(1, HEAD + "law 1 = ^not 2;");
    meetFault(1, HEAD + "law 1 = 1 or ^;");
    meetFault(1, HEAD + "law 1 = 1 ^not 1 = 1;");
    meetFault(1, HEAD + "law 1 = ^10000;");
    meetFault(1, HEAD + "law ^or 1 = 1;");
    meetFault(4, HEAD + "law not not not not not not ^not 1 = 1;");
    meetFault(4, HEAD + "law [ [ [ [ [ [ ^[ 1 = 1;");
    meetFault(4, HEAD + "law ( ( ( ( ( ( ^( 1;");
    meetFault(4, HEAD + "law not [ not [ 1 < ( ( ^( 1;");
    meetFault(4, HEAD + "law [ [ [ 1 = 1 ] ] ] and not not not not not not ^not 1 = 1;");
    String forty = "1+1+1+1+1+1+1+1+1+1+1+1+1+1+1+1+1+1+1+1<1+1+1+1+1+1+1+1+1+1+1+1+1+1+1+1+1+1+1";
    meetFault(4, HEAD + "law " + forty + "+1+^1;");
    meetFault(4, HEAD + "law " + forty + "+1+^sum;");
    meetFault(1, HEAD + "law " + forty + "+1+^zz;");
    meetFault(1, HEAD + "law " + forty + "+1+^10000;");
    meetFault(1, HEAD + "law " + forty + "+1+^;");
    meetGood(8, FULL + "list ann fa ba;law " + forty + "+1;");
    meetGood(8, FULL + "list ann fa ba;law not [ not [ ( ( 1 ) ) = 1 ] ] and not not not not not not 1 = 1;");
  }

  private static void tooMany() {
    String eleven = "judge land 1;".repeat(11);
    meetFault(4, HEAD + eleven + "^judge nothing;");
    StringBuilder dives = new StringBuilder(HEAD);
    for (int d = 0; d < 10; d++) {
      dives.append("dive ").append((char) ('a' + d)).append(" group 1 degree 20;");
    }
    meetFault(4, dives + "^dive a group 1 degree 20;");
    StringBuilder divers = new StringBuilder(HEAD);
    for (int e = 0; e < 6; e++) {
      divers.append(e % 2 == 0 ? "diver " : "pair ").append((char) ('a' + e)).append(" land 1;");
    }
    meetFault(4, divers + "^diver z land 1;");
    meetFault(4, divers + "^pair a land 1;");
    meetFault(4, HEAD + "law 1 = 1;".repeat(6) + "^law 1 = 1;");
    String cuts = "rounds 6 drop 0;cut 1 most 1;cut 2 most 1;cut 4 most 1;";
    meetFault(4, cuts + "^cut 5 most 1;");
    meetFault(4, cuts + "^cut 9 most 1;");
    meetFault(1, cuts + "^rounds 1 drop 1;");
  }

  private static void wholes() {
    meetFault(5, HEAD + "^");
    meetFault(5, HEAD + " \n^");
    meetFault(5, FULL + "^");
    meetFault(5, FULL + "list ann fa ba;diver bob land 1;^");
    meetFault(5, FULL + "list ann fa ba;pair bob land 1;list bob fa ba;^");
    String pairs = "judge land 1 first;judge land 1 second;";
    meetFault(5, FULL + pairs + "list ann fa ba;pair bob land 1;list bob fa ba;^");
    String pair = FULL + "list ann fa ba;pair bob land 1;list bob fa ba;";
    meetFault(5, pair + "judge land 1 first;judge land 1 together;^");
    meetFault(5, pair + "judge land 1 second;judge land 1 together;^");
    meetGood(12, pair + "judge land 1 second;judge land 1 first;judge land 1 together;");
    meetGood(12, FULL + pairs + "judge land 1 together;list ann fa ba;pair bob land 1;list bob fa ba;");
    meetFault(5, FULL.replace("judge land 1;", "judge land 1 first;") + "list ann fa ba;^");
  }

  private static void scriptFault(int kind, String text) {
    DropTwo x = new DropTwo();
    Check.meet(x, FULL + "list ann fa ba;");
    CHECK.due("script of " + text, -1, Check.script(x, text.replace("^", "")));
    CHECK.due("fault(0) of " + text, kind, x.fault(0));
    CHECK.due("fault(1) of " + text, text.indexOf('^'), x.fault(1));
    CHECK.due("stopped of " + text, -1, x.stopped());
    CHECK.due("look(7) of " + text, 0, x.look(7));
    CHECK.due("board(3) of " + text, 0, x.board(3));
    CHECK.due("look(10) of " + text, 0, x.look(10));
  }

  private static void scripts() {
    scriptFault(1, "^;");
    scriptFault(1, "^mark 1;");
    scriptFault(1, "^list ann fa;");
    scriptFault(1, "all 1;^1;");
    scriptFault(1, "marks^;");
    scriptFault(1, "marks 1 ^give;");
    scriptFault(1, "marks 1^");
    scriptFault(2, "marks 1 ^21;");
    scriptFault(1, "marks 1 ^00021;");
    scriptFault(4, "marks 1 2 3 4 5 6 7 8 9 10 11 ^12;");
    scriptFault(2, "marks 1 2 3 4 5 6 7 8 9 10 11 ^21;");
    scriptFault(1, "marks 1 2 3 4 5 6 7 8 9 10 11 ^12345;");
    scriptFault(2, "all ^21;");
    scriptFault(1, "all 1 ^1;");
    scriptFault(1, "balk ^1;");
    scriptFault(2, "cap ^21;");
    scriptFault(1, "cap^;");
    scriptFault(1, "half ^together;");
    scriptFault(1, "half^;");
    scriptFault(3, "out ^bob;");
    scriptFault(3, "out ^fa;");
    scriptFault(1, "out ^give;");
    scriptFault(1, "out ^toolongg;");
    scriptFault(2, "give times ^0;");
    scriptFault(2, "give times ^21;");
    scriptFault(1, "give times^;");
    scriptFault(1, "give times 1 ^times 1;");
    scriptFault(1, "all 1;give^");
    scriptFault(4, "cap 1;".repeat(60) + "^cap 1;");
    scriptFault(1, "cap 1;".repeat(60) + "^rounds;");
    scriptFault(1, "cap 1;".repeat(60) + "^zz;");
    DropTwo x = new DropTwo();
    CHECK.due("out without a meet", -1, Check.script(x, "out ann;"));
    CHECK.due("its fault", 3, x.fault(0));
    CHECK.due("its place", 4, x.fault(1));
  }

  /** A fault of a meet changes nothing but the tape and the faults. */
  private static void staying() {
    DropTwo x = new DropTwo();
    Check.meet(x, FULL + "list ann fa ba;");
    x.mark(0, 7);
    x.keep(0);
    CHECK.due("a wrong meet", -1, Check.meet(x, "rounds 2 drop 3;"));
    CHECK.due("fault", 5, x.fault(0));
    CHECK.due("look(1)", 1, x.look(1));
    CHECK.due("marked(0)", 7, x.marked(0));
    CHECK.due("look(7)", 1, x.look(7));
    CHECK.due("back(0)", 0, x.back(0));
    CHECK.due("named does not touch faults", -1, Check.named(x, 0, "rounds 1 drop 1;"));
    CHECK.due("fault(0)", 5, x.fault(0));
    CHECK.due("fault(1)", 16, x.fault(1));
    CHECK.due("a good script", 1, Check.script(x, "cap 3;"));
    CHECK.due("fault(0) then", 0, x.fault(0));
    CHECK.due("fault(1) then", -1, x.fault(1));
  }

  /** Bytes that were on the tape behind its end are no part of the text. */
  private static void endings() {
    String[] ends = {"rounds 1", "rounds 1 drop 0", "rounds", "rounds 1 "};
    for (String text : ends) {
      for (char behind : "7a; ".toCharArray()) {
        DropTwo x = new DropTwo();
        Check.feed(x, text + String.valueOf(behind).repeat(20));
        x.end(text.length());
        CHECK.due("meet of " + text, -1, x.meet());
        CHECK.due("fault of " + text, 1, x.fault(0));
        CHECK.due("place of " + text, text.length(), x.fault(1));
      }
    }
    for (String last : new String[] {"7", "a", ";", " "}) {
      String text = "rounds 1 drop" + " ".repeat(1186) + last;
      DropTwo x = new DropTwo();
      CHECK.due("a full tape", -1, Check.meet(x, text));
      CHECK.due("the first fault", last.equals("7") ? 2 : 1, x.fault(0));
      CHECK.due("its place", last.equals(" ") ? 1200 : 1199, x.fault(1));
    }
  }
}
