/** Terms ==== 1: the faults of a meet's text. */
final class EdgesOfFaults {
  private static final String ONE = EdgesOfMeets.ONE;
  private static final String TWO = EdgesOfMeets.TWO;
  private static final String FORTY = "1" + "+1".repeat(38) + "<1";

  private final Edges edges;

  EdgesOfFaults(Edges edges) {
    this.edges = edges;
  }

  void all() {
    edges.says(0, "FAULTS, the first by its place", this::firstPlace);
    edges.says(0, "(a byte, from 0 on; the end: the TEXT's length),", this::places);
    edges.says(0, "of one place the least:", this::leastOfOnePlace);
    edges.says(0, "1 what can't stand there (a WORD that is too long, an N of more digits: at its begin).", this::ones);
    edges.says(0, "2 an N that can't be.", this::twos);
    edges.says(0, "3 a NAME that a DIVE, an ENTRANT has already (of dive, diver, pair);", this::namesTaken);
    edges.says(0, "that no ENTRANT has (of list, form),", this::noEntrant);
    edges.says(0, "whose LIST is told (of list);", this::listTold);
    edges.says(0, "that no DIVE has, that is in this LIST already (of list; at it).", this::noDive);
    edges.says(0, "4 one too many, at the STATEMENT's first byte:", this::tooManyAtTheFirstByte);
    edges.says(0, "a STATEMENT, a JUDGE, a DIVE, an ENTRANT, a LAW, a CUT;", this::tooMany);
    edges.says(0, "the 7th of \"[\", \"(\" and not that is open at one time (at it; a not till its FACT ends);",
        this::seventhOpen);
    edges.says(0, "the 41st VALUE of one LAW that is an N or a WORD (at it).", this::valuesOfALaw);
    edges.says(0, "5, if there is no other, at the length:", this::fives);
    edges.says(0, "there is no ENTRANT,", this::noEntrantAtAll);
    edges.says(0, "one has no LIST,", this::noList);
    edges.says(0, "there is a diver without a JUDGE of SORT 0,", this::noJudgeOfDivers);
    edges.says(0, "a pair without one of SORTS 1, 2, 3 each.", this::noJudgeOfPairs);
  }

  private void firstPlace() {
    edges.fault(2, "rounds ^7 drop 4;");
    edges.fault(2, "rounds ^7 nothing;");
    edges.fault(1, "rounds 1 ^nothing 4;");
    edges.fault(3, TWO + "list ^bob fa fa fa;");
    edges.fault(3, TWO + "list ann fa ^fa 1;");
    edges.fault(4, ONE + "law 1=1;".repeat(6) + "^law ];cut 9 most 9;");
    edges.fault(2, ONE + "judge land ^8;" + "law 1=1;".repeat(7));
    edges.fault(1, "rounds 1 drop 0;^?");
  }

  private void places() {
    edges.fault(1, "^?");
    edges.fault(1, " ^?");
    edges.fault(1, "^");
    edges.fault(1, " ^");
    edges.fault(1, "rounds^");
    edges.fault(1, "rounds \n ^");
    edges.fault(1, " ".repeat(1200) + "^");
    edges.fault(1, " ".repeat(1199) + "^?");
    edges.fault(5, "rounds 1 drop 0;^");
    edges.fault(5, "rounds 1 drop 0; \n^");
    edges.fault(5, "rounds 1 drop 0;" + " ".repeat(1184) + "^");
  }

  private void leastOfOnePlace() {
    // 1 and 3: a name too many that no dive has, that is in the list already.
    edges.fault(1, TWO + "list ann fa ba ^zz;");
    edges.fault(1, TWO + "list ann fa ba ^fa;");
    // 1 and 4: a 41st value of too many digits; a second statement of rounds behind all that is full.
    edges.fault(1, ONE + "law " + FORTY + "+^10000;");
    edges.fault(1, ONE + "law " + FORTY + "+^toolongg;");
    edges.fault(1, ONE + "judge land 1;".repeat(10) + "^rounds 1 drop 0;");
    // 1 and 5: the text ends where a sign is due, and there is no entrant.
    edges.fault(1, "rounds 1 drop 0^");
  }

  private void ones() {
    edges.fault(1, "rounds 1 drop 0;^abcdefgh;");
    edges.fault(1, "rounds 1 drop 0;dive ^abcdefgh group 1 degree 20;");
    edges.fault(1, "rounds ^12345 drop 0;");
    edges.fault(1, "rounds ^00007 drop 0;");
    edges.fault(1, "rounds ^rounds drop 0;");
    edges.fault(1, "rounds 1 drop ^;");
    edges.fault(1, ONE + "dive zz group 1 degree ^zz;");
    edges.fault(1, ONE + "^fa;");
    edges.fault(1, ONE + "^give;");
    edges.fault(1, ONE + "^7;");
    edges.fault(1, ONE + "^drop 0;");
  }

  private void twos() {
    edges.fault(2, "rounds ^0 drop 0;");
    edges.fault(2, "rounds 1 drop ^4;");
    edges.fault(2, ONE + "judge land ^8;");
    edges.fault(2, ONE + "dive zz group ^7 degree 20;");
    edges.fault(2, ONE + "dive zz group 1 degree ^61;");
    edges.fault(2, ONE + "dive zz group 1 degree ^0009;");
    edges.fault(2, ONE + "diver zz land ^8;");
    edges.fault(2, ONE + "form ann 1 1 ^21 1 1 1;");
    edges.fault(2, ONE + "cut ^1 most 1;");
    edges.fault(2, ONE + "form ann ^9999 1 1 1 1 1;");
  }

  private void namesTaken() {
    edges.fault(3, ONE + "dive ^fa group 1 degree 20;");
    edges.fault(3, ONE + "dive ^ann group 1 degree 20;");
    edges.fault(3, ONE + "diver ^fa land 1;");
    edges.fault(3, ONE + "diver ^ann land 1;");
    edges.fault(3, ONE + "pair ^fa land 1;");
    edges.fault(3, ONE + "pair ^ann land 1;");
    edges.good(6, ONE + "dive anna group 1 degree 20;");
    edges.good(6, ONE + "dive an group 1 degree 20;");
    DropTwo x = edges.meet(ONE);
    edges.due("names of a meet ahead are free", 5, Check.meet(x, ONE.replace("fa", "q").replace("ann", "fa")));
  }

  private void noEntrant() {
    edges.fault(3, TWO + "list ^zz fa ba;");
    edges.fault(3, TWO + "list ^fa ba re;");
    edges.fault(3, TWO + "form ^zz 1 1 1 1 1 1;");
    edges.fault(3, TWO + "form ^fa 1 1 1 1 1 1;");
    edges.fault(3, "rounds 1 drop 0;list ^ann fa;");
    DropTwo x = edges.meet(ONE);
    edges.due("entrants of a meet ahead are none", -1, Check.meet(x, "rounds 1 drop 0;form ann 1 1 1 1 1 1;"));
    edges.due("its fault", 3, x.fault(0));
  }

  private void listTold() {
    edges.fault(3, ONE + "list ^ann fa;");
    edges.good(6, ONE + "form ann 1 1 1 1 1 1;");
    edges.fault(3, ONE + "diver bob land 1;list bob fa;list ^ann fa;");
  }

  private void noDive() {
    edges.fault(3, TWO + "list ann ^zz ba;");
    edges.fault(3, TWO + "list ann fa ^zz;");
    edges.fault(3, TWO + "list ann ^ann ba;");
    edges.fault(3, TWO + "list ann fa ^fa;");
    edges.fault(3, EdgesOfMeets.rounds(6, 0, "diver bob land 1;list bob a b c d e ^c;"));
    edges.good(9, TWO + "list ann fa ba;diver bob land 1;list bob fa ba;");
  }

  private void tooManyAtTheFirstByte() {
    edges.fault(4, ONE + "law 1=1;".repeat(6) + "\n ^law 1=1;");
    edges.fault(4, ONE + "law 1=1;".repeat(6) + "^law");
    edges.fault(4, ONE + "judge land 1;".repeat(10) + "^judge ?");
  }

  /** No text of 1,200 bytes has an 81st statement: of 78 none is refused, and no more go on the tape. */
  private void tooMany() {
    edges.good(78, EdgesOfMeets.most());
    edges.isTrue("no room for one more", EdgesOfMeets.most().length() + "form b1 1 1 1 1 1;".length() > 1200);
    edges.good(15, ONE + "judge land 1;".repeat(10));
    edges.fault(4, ONE + "judge land 1;".repeat(10) + "^judge land 1;");
    StringBuilder dives = new StringBuilder(ONE);
    for (char name = 'b'; name < 'b' + 9; name++) {
      dives.append("dive ").append(name).append(" group 1 degree 20;");
    }
    edges.good(14, dives.toString());
    edges.fault(4, dives + "^dive z group 1 degree 20;");
    StringBuilder divers = new StringBuilder(ONE);
    for (char name = 'b'; name < 'b' + 5; name++) {
      divers.append("diver ").append(name).append(" land 1;list ").append(name).append(" fa;");
    }
    edges.good(15, divers.toString());
    edges.fault(4, divers + "^diver z land 1;");
    edges.fault(4, divers + "^pair z land 1;");
    edges.good(11, ONE + "law 1=1;".repeat(6));
    edges.fault(4, ONE + "law 1=1;".repeat(6) + "^law 1=1;");
    String cuts = EdgesOfMeets.rounds(6, 0, "cut 1 most 1;cut 2 most 1;cut 3 most 1;");
    edges.good(13, cuts);
    edges.fault(4, cuts + "^cut 4 most 1;");
  }

  private void seventhOpen() {
    edges.good(6, ONE + "law [[[[[[1=1]]]]]];");
    edges.fault(4, ONE + "law [[[[[[^[1=1]]]]]]];");
    edges.good(6, ONE + "law ((((((1))))))=1;");
    edges.fault(4, ONE + "law ((((((^(1)))))))=1;");
    edges.fault(4, ONE + "law 1=((((((^(1)))))));");
    edges.good(6, ONE + "law not not not not not not 1=1;");
    edges.fault(4, ONE + "law not not not not not not ^not 1=1;");
    edges.good(6, ONE + "law not [not [((1))=1]];");
    edges.fault(4, ONE + "law not [not [((^(1)))=1]];");
    // What was shut is open no more.
    edges.good(6, ONE + "law [[[[[[1=1]]]]]] and [[[[[[1=1]]]]]] and ((((((1))))))=((((((1))))));");
    // A not is open till its fact ends: in both of its sums, but not behind it.
    edges.fault(4, ONE + "law not not not not not not ^(1)=1;");
    edges.fault(4, ONE + "law not not not not not not 1=^(1);");
    edges.fault(4, ONE + "law not not not not not not ^[1=1];");
    edges.good(6, ONE + "law not not not not not not 1=1 and not not not not not not 1=1 or ((((((1))))))=1;");
    edges.fault(4, ONE + "law [not not not not not 1=1 and not not not not not ^not 1=1];");
    edges.good(6, ONE + "law [not not not not not 1=1 and not not not not not 1=1];");
  }

  private void valuesOfALaw() {
    edges.good(6, ONE + "law " + FORTY + ";");
    edges.fault(4, ONE + "law " + FORTY + "+^1;");
    edges.fault(4, ONE + "law " + FORTY + "+^sum;");
    edges.fault(4, ONE + "law " + FORTY + " or ^1=1;");
    edges.fault(4, ONE + "law " + FORTY + "+(^1);");
    // Words count, brackets do not; each law has forty of its own.
    edges.good(6, ONE + "law ((sum" + "+sum".repeat(38) + "))<(1);");
    edges.fault(4, ONE + "law sum" + "+sum".repeat(39) + "<^1;");
    edges.good(8, ONE + ("law " + FORTY + ";").repeat(3));
  }

  private void fives() {
    edges.fault(5, "rounds 1 drop 0;^");
    edges.fault(5, "rounds 1 drop 0; \n ^");
    edges.fault(1, "rounds 1 drop 0;^?");
    edges.fault(2, "rounds 1 drop 0;judge land ^8;");
    edges.fault(5, TWO + "^");
  }

  private void noEntrantAtAll() {
    edges.fault(5, "rounds 1 drop 0;judge land 1;dive fa group 1 degree 20;^");
    edges.good(5, ONE);
  }

  private void noList() {
    edges.fault(5, ONE + "diver bob land 1;^");
    edges.fault(5, ONE.replace("list ann fa;", "diver bob land 1;list bob fa;^"));
    edges.good(7, ONE + "diver bob land 1;list bob fa;");
  }

  private void noJudgeOfDivers() {
    edges.fault(5, ONE.replace("judge land 1;", "") + "^");
    String pairs = "judge land 1 first;judge land 1 second;judge land 1 together;";
    edges.fault(5, ONE.replace("judge land 1;", pairs) + "^");
    edges.good(7, ONE.replace("judge land 1;", pairs).replace("diver", "pair"));
    // The judge may be told behind the diver.
    edges.good(5, ONE.replace("judge land 1;", "") + "judge land 1;");
  }

  private void noJudgeOfPairs() {
    String pair = ONE.replace("diver", "pair").replace("judge land 1;", "");
    String[] sorts = {"judge land 1 first;", "judge land 1 second;", "judge land 1 together;"};
    edges.good(7, pair + sorts[0] + sorts[1] + sorts[2]);
    edges.fault(5, pair + sorts[1] + sorts[2] + "^");
    edges.fault(5, pair + sorts[0] + sorts[2] + "^");
    edges.fault(5, pair + sorts[0] + sorts[1] + "^");
    edges.fault(5, pair + "judge land 1;judge land 1;judge land 1;^");
  }
}
