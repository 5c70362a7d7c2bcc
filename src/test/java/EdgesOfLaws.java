/** Terms ==== 1: the tests of laws, and what they tell of a list. */
final class EdgesOfLaws {
  /** 2 to the 63rd, which wraps to the least long. */
  private static final String LEAST = "(4096*4096*4096*4096*4096*8)";

  private final Edges edges;

  EdgesOfLaws(Edges edges) {
    this.edges = edges;
  }

  void all() {
    edges.says(0, "TEST: BOTH { or BOTH }.", this::ors);
    edges.says(0, "BOTH: FACT { and FACT }.", this::ands);
    edges.says(0, "FACT: not FACT |", this::nots);
    edges.says(0, "\"[\" TEST \"]\"", this::brackets);
    edges.says(0, "| SUM SIGN SUM, SIGN one of < > = .", this::signs);
    edges.says(0, "SUM: TERM { (\"+\" | \"-\") TERM }.", this::sums);
    edges.says(0, "TERM: VALUE { (\"*\" | \"/\" | \"%\") VALUE }.", this::terms);
    edges.says(0, "VALUE: N | \"(\" SUM \")\" | rounds | round | group | degree | sum | seen | unlike | pair.",
        this::values);
    edges.says(0, "Of a ROUND (1 on) of a LIST: rounds: ROUNDS;", this::rounds);
    edges.says(0, "round: which it is;", this::round);
    edges.says(0, "GROUP, DEGREE: of its DIVE;", this::diveFacts);
    edges.says(0, "sum: DEGREES of this one and all ahead;", this::degreeSum);
    edges.says(0, "seen: how many of this one and those ahead have its GROUP;", this::seen);
    edges.says(0, "unlike: how many unlike GROUPS these have;", this::unlike);
    edges.says(0, "pair: 1 of a pair, else 0.", this::pair);
    edges.says(0, "Longs that wrap;", this::wraps);
    edges.says(0, "/ is cut towards 0, % its rest,", this::cutTowardsZero);
    edges.says(0, "both 0 by 0;", this::byZero);
    edges.says(0, "all parts are worked out.", this::allParts);
    edges.says(0, "A LIST OBEYS, if each LAW is so in each ROUND.", this::obeys);
  }

  /** Whether a test is so in the only round of a list. */
  private void so(int due, String test) {
    DropTwo x = edges.meet(EdgesOfMeets.ONE + "law " + test + ";");
    edges.due(test, due, x.law(0, 0, 1));
    edges.due(test + " is broken in", 1 - due, x.breaks(0, 0));
  }

  private void refused(String test) {
    edges.fault(1, EdgesOfMeets.ONE + "law " + test + ";");
  }

  private void ors() {
    so(1, "1=1 or 1=1");
    so(1, "1=1 or 1=2");
    so(1, "1=2 or 1=1");
    so(0, "1=2 or 1=2");
    so(1, "1=2 or 1=2 or 1=2 or 1=1");
    so(1, "1=1 or 1=2 and 1=2");
    so(1, "1=2 and 1=2 or 1=1");
    refused("1=1 or^");
    refused("^or 1=1");
    refused("1=1 or ^or 1=1");
    refused("1=1 ^1=1");
  }

  private void ands() {
    so(1, "1=1 and 1=1");
    so(0, "1=1 and 1=2");
    so(0, "1=2 and 1=1");
    so(0, "1=2 and 1=2");
    so(0, "1=1 and 1=1 and 1=1 and 1=2");
    refused("1=1 and^");
    refused("^and 1=1");
    refused("1=1 and ^or 1=1");
  }

  private void nots() {
    so(0, "not 1=1");
    so(1, "not 1=2");
    so(1, "not not 1=1");
    so(0, "not not not 1=1");
    // It is of its fact alone, not of all that follows.
    so(0, "not 1=2 and 1=2");
    so(1, "not 1=1 or 1=1");
    so(1, "1=1 and not 1=2");
    refused("not^");
    refused("1=1 ^not 1=1");
    refused("1=^not 1");
  }

  private void brackets() {
    so(0, "[1=1 or 1=2] and 1=2");
    so(0, "1=2 and [1=1 or 1=1]");
    so(0, "not [1=2 or 1=1]");
    so(1, "not [1=1 and 1=2]");
    so(1, "[[[[[[1=1]]]]]]");
    refused("[^]");
    refused("[1=1^");
    refused("1=1^]");
    refused("[1^]=1");
    refused("[1=1^)");
  }

  private void signs() {
    so(1, "1<2");
    so(0, "2<2");
    so(0, "3<2");
    so(0, "1>2");
    so(0, "2>2");
    so(1, "3>2");
    so(0, "1=2");
    so(1, "2=2");
    so(1, "0-1<0");
    refused("1^");
    refused("^<1");
    refused("1<^");
    refused("1<2^<3");
    refused("1<^=2");
    refused("1^!2");
    refused("1=^=2");
  }

  private void sums() {
    so(1, "7-2-1=4");
    so(1, "7-2+1=6");
    so(1, "1+2+3+4=10");
    so(1, "0-5=2-7");
    so(1, "4=7-2-1");
    refused("^-1=1");
    refused("1+^=1");
    refused("1+^-1=0");
    refused("1-^");
  }

  private void terms() {
    so(1, "2+3*4=14");
    so(1, "20-12/4=17");
    so(1, "20-7%4=17");
    so(1, "12/2*3=18");
    so(1, "2*7/4=3");
    so(1, "17%5*2=4");
    so(1, "2*17%5=4");
    so(1, "100/7%5=4");
    refused("^*1=1");
    refused("2*^=1");
    refused("2*^/1=1");
    refused("2%^");
  }

  private void values() {
    so(1, "(2+3)*4=20");
    so(1, "7-(2-1)=6");
    so(1, "((((((1))))))=1");
    so(1, "0=0000");
    so(1, "9999-9998=1");
    so(1, "rounds+round+group+degree+sum+seen+unlike+pair=1+1+1+20+20+1+1+0");
    refused("(^)=1");
    refused("(1^=1");
    refused("1^)=1");
    refused("(1^=1)");
    for (String word : EdgesOfMeets.WORDS) {
      boolean isValue = " rounds round group degree sum seen unlike pair ".contains(" " + word + " ");
      if (!isValue) {
        refused("1=^" + word);
      }
    }
    refused("1=^fa");
    refused("1=^ann");
    refused("1=^x");
  }

  /** Three rounds of ann, a diver, and duo, a pair: groups 1 2 1 and 3 1 2, degrees 10 20 30 and 60 30 20. */
  private DropTwo lists(String law) {
    return edges.meet("rounds 3 drop 0;judge land 1;judge land 1 first;judge land 1 second;"
        + "judge land 1 together;dive a group 1 degree 10;dive b group 2 degree 20;"
        + "dive c group 1 degree 30;dive d group 3 degree 60;diver ann land 1;pair duo land 1;"
        + "list ann a b c;list duo d c b;law " + law + ";");
  }

  private void fact(String fact, int... due) {
    for (int i = 0; i < due.length; i++) {
      for (int off = -1; off <= 1; off++) {
        DropTwo x = lists(fact + "=" + (due[i] + 1) + "-1+" + (off + 1) + "-1");
        edges.due(fact + " of " + i, off == 0 ? 1 : 0, x.law(0, i / 3, i % 3 + 1));
      }
    }
  }

  private void rounds() {
    fact("rounds", 3, 3, 3, 3, 3, 3);
  }

  private void round() {
    fact("round", 1, 2, 3, 1, 2, 3);
  }

  private void diveFacts() {
    fact("group", 1, 2, 1, 3, 1, 2);
    fact("degree", 10, 20, 30, 60, 30, 20);
    DropTwo x = lists("degree=60 or round<3 or pair=1");
    edges.due("the list as it was told", 0, x.law(0, 0, 3));
    edges.due("the list is changed", 2, x.change(0, 3, 3));
    edges.due("the list as it is now", 1, x.law(0, 0, 3));
  }

  private void degreeSum() {
    fact("sum", 10, 30, 60, 60, 90, 110);
  }

  private void seen() {
    fact("seen", 1, 1, 2, 1, 1, 1);
  }

  private void unlike() {
    fact("unlike", 1, 2, 2, 1, 2, 3);
  }

  private void pair() {
    fact("pair", 0, 0, 0, 1, 1, 1);
  }

  private void wraps() {
    so(1, LEAST + "<0");
    so(1, LEAST + "-1>0");
    so(1, LEAST + "-1+1<0");
    so(1, LEAST + "*2=0");
    so(1, "0-" + LEAST + "=" + LEAST);
    so(1, LEAST + "+" + LEAST + "=0");
    so(1, LEAST + "<" + LEAST + "-1");
    so(1, LEAST + "/(0-1)=" + LEAST);
    so(1, LEAST + "%(0-1)=0");
    long fifth = 9999L * 9999 * 9999 * 9999 * 9999;
    so(fifth < 0 ? 1 : 0, "9999*9999*9999*9999*9999<0");
    so(1, "9999*9999*9999*9999*9999%1000=0" + (fifth < 0 ? "-" : "+") + Math.abs(fifth % 1000));
    so(1, "9999*9999*9999*9999>9999*9999*9999");
  }

  private void cutTowardsZero() {
    so(1, "7/2=3");
    so(1, "(0-7)/2=0-3");
    so(1, "7/(0-2)=0-3");
    so(1, "(0-7)/(0-2)=3");
    so(1, "1/2=0");
    so(1, "(0-1)/2=0");
    so(1, "7%2=1");
    so(1, "(0-7)%2=0-1");
    so(1, "7%(0-2)=1");
    so(1, "(0-7)%(0-2)=0-1");
    so(1, "6%2=0");
    so(1, "6%1=0");
  }

  private void byZero() {
    so(1, "7/0=0");
    so(1, "7%0=0");
    so(1, "0/0=0");
    so(1, "0%0=0");
    so(1, "(0-7)/(1-1)=0");
    so(1, "(0-7)%(1-1)=0");
    so(1, LEAST + "/0=0");
    so(1, "1+7/pair=1");
  }

  /** A part that can't change the answer may stand anywhere, with a division by 0, too. */
  private void allParts() {
    so(1, "1=1 or 1/0=1");
    so(0, "1=2 and 1%0=0");
    so(1, "1=1 or [1=2 and not 1/0=1]");
    so(0, "1=2 and [1=1 or 1/0=0]");
  }

  private void obeys() {
    DropTwo all = lists("1=1;law 2=2");
    edges.due("each is so", 0, all.breaks(0, 0));
    DropTwo last = lists("1=1;law round<3");
    edges.due("one is not so in the last round", 3, last.breaks(0, 0));
    DropTwo first = lists("round>1;law 1=1");
    edges.due("one is not so in the first round", 1, first.breaks(0, 0));
    DropTwo none = edges.meet(EdgesOfMeets.ONE);
    edges.due("without laws", 0, none.breaks(0, 0));
  }
}
