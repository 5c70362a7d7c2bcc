import java.util.ArrayList;
import java.util.Arrays;
import java.util.HashMap;
import java.util.LinkedList;
import java.util.List;
import java.util.Map;

/** The document written a second time, in the plainest way and without any care for speed. */
final class Model {
  static final class Fault extends RuntimeException {
    final int kind;
    final int place;

    Fault(int kind, int place) {
      super(null, null, false, false);
      this.kind = kind;
      this.place = place;
    }
  }

  record Token(char type, String text, int place) {
    boolean is(String sign) {
      return type != 'n' && type != 'x' && type != 'e' && text.equals(sign);
    }
  }

  record Dive(String name, int group, int degree) {}

  record Judge(int land, int sort) {}

  record Cut(int round, int most, boolean anew) {}

  static final class Entrant {
    String name;
    boolean pair;
    int land;
    int[] list;
    int[] form = {10, 10, 10, 10, 10, 10};
  }

  /** A round of a row of dives. */
  record Place(Told told, int[] row, int round, boolean pair) {
    Dive dive(int r) {
      return told.dives.get(row[r - 1]);
    }
  }

  interface Num {
    long of(Place p);
  }

  interface Test {
    boolean of(Place p);
  }

  static final class Told {
    int rounds;
    int drop;
    List<Judge> judges = new ArrayList<>();
    List<Dive> dives = new ArrayList<>();
    List<Entrant> entrants = new ArrayList<>();
    List<Test> laws = new ArrayList<>();
    List<Cut> cuts = new ArrayList<>();
    int statements;
    Map<Boolean, List<int[]>> rows = new HashMap<>();

    int dive(String name) {
      for (int i = 0; i < dives.size(); i++) {
        if (dives.get(i).name.equals(name)) {
          return i;
        }
      }
      return -1;
    }

    int entrant(String name) {
      for (int i = 0; i < entrants.size(); i++) {
        if (entrants.get(i).name.equals(name)) {
          return i;
        }
      }
      return -1;
    }

    int firstBreak(int[] row, boolean pair) {
      for (int r = 1; r <= rounds; r++) {
        if (brokenLaw(row, r, pair) >= 0) {
          return r;
        }
      }
      return 0;
    }

    int brokenLaw(int[] row, int round, boolean pair) {
      for (int i = 0; i < laws.size(); i++) {
        if (!laws.get(i).of(new Place(this, row, round, pair))) {
          return i;
        }
      }
      return -1;
    }

    List<int[]> rowsThatObey(boolean pair) {
      return rows.computeIfAbsent(pair, p -> {
        List<int[]> all = new ArrayList<>();
        grow(all, new int[rounds], 0, pair);
        return all;
      });
    }

    private void grow(List<int[]> all, int[] row, int filled, boolean pair) {
      if (filled == rounds) {
        all.add(row.clone());
        return;
      }
      for (int d = 0; d < dives.size(); d++) {
        boolean used = false;
        for (int i = 0; i < filled; i++) {
          used |= row[i] == d;
        }
        if (!used) {
          row[filled] = d;
          if (brokenLaw(row, filled + 1, pair) < 0) {
            grow(all, row, filled + 1, pair);
          }
        }
      }
    }

    List<Integer> panel(int e) {
      List<Integer> panel = new ArrayList<>();
      for (int j = 0; j < judges.size(); j++) {
        if (entrants.get(e).pair ? judges.get(j).sort > 0 : judges.get(j).sort == 0) {
          panel.add(j);
        }
      }
      return panel;
    }

    int formAward(int e, int d) {
      int a = entrants.get(e).form[dives.get(d).group - 1];
      int less = dives.get(d).degree - 20;
      a = less >= 0 ? a - less / 5 : a + (-less) / 5;
      return a < 0 ? 0 : a > 20 ? 20 : a;
    }

    int formPoints(int e, int d) {
      return formAward(e, d) * 15 * dives.get(d).degree;
    }
  }

  /** A dive at the board or given. */
  static final class Result implements Cloneable {
    boolean given;
    boolean failed;
    int points;
    int balks;
    int cap = 20;
    boolean firstHalf;
    boolean secondHalf;
    Map<Integer, Integer> awards = new java.util.TreeMap<>();

    Result copy() {
      Result r = new Result();
      r.given = given;
      r.failed = failed;
      r.points = points;
      r.balks = balks;
      r.cap = cap;
      r.firstHalf = firstHalf;
      r.secondHalf = secondHalf;
      r.awards.putAll(awards);
      return r;
    }
  }

  static final class Now {
    int[][] lists;
    Result[][] results;
    int[] status;
    int[] from;
    List<Integer> order = new ArrayList<>();
    LinkedList<Integer> waiting = new LinkedList<>();
    int round = 1;
    boolean over;

    Now copy() {
      Now n = new Now();
      n.lists = new int[lists.length][];
      n.results = new Result[lists.length][];
      for (int e = 0; e < lists.length; e++) {
        n.lists[e] = lists[e].clone();
        n.results[e] = new Result[results[e].length];
        for (int r = 0; r < results[e].length; r++) {
          n.results[e][r] = results[e][r].copy();
        }
      }
      n.status = status.clone();
      n.from = from.clone();
      n.order.addAll(order);
      n.waiting.addAll(waiting);
      n.round = round;
      n.over = over;
      return n;
    }
  }

  record Act(String word, List<Integer> numbers, int times) {}

  static final List<String> WORDS = Arrays.asList(("rounds drop judge land first second together dive"
      + " group degree diver pair list form law cut most anew or and not round sum seen unlike"
      + " times marks all balk cap half fail give out").split(" "));

  StringBuilder tape = new StringBuilder();
  Told told;
  Now now;
  LinkedList<Now> past = new LinkedList<>();
  Now[] kept = new Now[2];
  int faultKind = 0;
  int faultPlace = -1;
  int stoppedAt = -1;

  // ---- reading

  private List<Token> tokens;
  private int at;
  private int open;
  private int leaves;

  static List<Token> cutUp(String text) {
    List<Token> tokens = new ArrayList<>();
    java.util.regex.Matcher m =
        java.util.regex.Pattern.compile("[ \\n]+|[a-z]+|[0-9]+|.", java.util.regex.Pattern.DOTALL)
            .matcher(text);
    while (m.find()) {
      String piece = m.group();
      char c = piece.charAt(0);
      if (c == ' ' || c == '\n') {
        continue;
      }
      char type = 's';
      if (c >= 'a' && c <= 'z') {
        type = WORDS.contains(piece) ? 'w' : piece.length() <= 7 ? 'n' : 'x';
      } else if (c >= '0' && c <= '9') {
        type = piece.length() <= 4 ? 'd' : 'x';
      }
      tokens.add(new Token(type, piece, m.start()));
    }
    tokens.add(new Token('e', "", text.length()));
    return tokens;
  }

  private Token peek() {
    return tokens.get(at);
  }

  private Token next() {
    return tokens.get(at++);
  }

  private boolean skip(String text) {
    if (peek().is(text)) {
      at++;
      return true;
    }
    return false;
  }

  private void need(String text) {
    if (!skip(text)) {
      throw new Fault(1, peek().place);
    }
  }

  private int number(int least, int most) {
    Token t = next();
    if (t.type != 'd') {
      throw new Fault(1, t.place);
    }
    int n = Integer.parseInt(t.text);
    if (n < least || n > most) {
      throw new Fault(2, t.place);
    }
    return n;
  }

  private Token name() {
    Token t = next();
    if (t.type != 'n') {
      throw new Fault(1, t.place);
    }
    return t;
  }

  Told readMeet(String text) {
    tokens = cutUp(text);
    at = 0;
    Told m = new Told();
    do {
      statement(m);
      need(";");
      m.statements++;
    } while (peek().type != 'e');
    boolean good = !m.entrants.isEmpty();
    for (int e = 0; e < m.entrants.size(); e++) {
      Entrant x = m.entrants.get(e);
      good &= x.list != null;
      for (int sort = x.pair ? 1 : 0; sort <= (x.pair ? 3 : 0); sort++) {
        final int s = sort;
        good &= m.judges.stream().anyMatch(j -> j.sort == s);
      }
    }
    if (!good) {
      throw new Fault(5, text.length());
    }
    return m;
  }

  private void room(Token t, Told m, int has, int most) {
    if (m.statements >= 80 || has >= most) {
      throw new Fault(4, t.place);
    }
  }

  private void statement(Told m) {
    Token t = next();
    if (t.type != 'w' || (m.statements == 0) != t.text.equals("rounds")) {
      throw new Fault(1, t.place);
    }
    switch (t.text) {
      case "rounds" -> {
        m.rounds = number(1, 6);
        need("drop");
        m.drop = number(0, 3);
      }
      case "judge" -> {
        room(t, m, m.judges.size(), 11);
        need("land");
        int land = number(0, 7);
        m.judges.add(new Judge(land, skip("first") ? 1 : skip("second") ? 2 : skip("together") ? 3 : 0));
      }
      case "dive" -> {
        room(t, m, m.dives.size(), 10);
        String name = fresh(m);
        need("group");
        int group = number(1, 6);
        need("degree");
        m.dives.add(new Dive(name, group, number(10, 60)));
      }
      case "diver", "pair" -> {
        room(t, m, m.entrants.size(), 6);
        Entrant e = new Entrant();
        e.name = fresh(m);
        e.pair = t.text.equals("pair");
        need("land");
        e.land = number(0, 7);
        m.entrants.add(e);
      }
      case "list" -> {
        room(t, m, 0, 1);
        Token n = name();
        int e = m.entrant(n.text);
        if (e < 0 || m.entrants.get(e).list != null) {
          throw new Fault(3, n.place);
        }
        List<Integer> list = new ArrayList<>();
        while (peek().type == 'n') {
          Token d = next();
          if (list.size() == m.rounds) {
            throw new Fault(1, d.place);
          }
          if (m.dive(d.text) < 0 || list.contains(m.dive(d.text))) {
            throw new Fault(3, d.place);
          }
          list.add(m.dive(d.text));
        }
        if (list.size() < m.rounds) {
          throw new Fault(1, peek().place);
        }
        m.entrants.get(e).list = list.stream().mapToInt(i -> i).toArray();
      }
      case "form" -> {
        room(t, m, 0, 1);
        Token n = name();
        int e = m.entrant(n.text);
        if (e < 0) {
          throw new Fault(3, n.place);
        }
        for (int g = 0; g < 6; g++) {
          m.entrants.get(e).form[g] = number(0, 20);
        }
      }
      case "law" -> {
        room(t, m, m.laws.size(), 6);
        open = 0;
        leaves = 0;
        m.laws.add(test());
      }
      case "cut" -> {
        room(t, m, m.cuts.size(), 3);
        int ahead = m.cuts.isEmpty() ? 0 : m.cuts.get(m.cuts.size() - 1).round;
        int round = number(ahead + 1, m.rounds - 1);
        need("most");
        int most = number(1, 5);
        m.cuts.add(new Cut(round, most, skip("anew")));
      }
      default -> throw new Fault(1, t.place);
    }
  }

  private String fresh(Told m) {
    Token n = name();
    if (m.dive(n.text) >= 0 || m.entrant(n.text) >= 0) {
      throw new Fault(3, n.place);
    }
    return n.text;
  }

  private void opens(Token t) {
    open++;
    if (open > 6) {
      throw new Fault(4, t.place);
    }
  }

  private Test test() {
    Test a = both();
    while (skip("or")) {
      Test l = a;
      Test r = both();
      a = p -> l.of(p) | r.of(p);
    }
    return a;
  }

  private Test both() {
    Test a = fact();
    while (skip("and")) {
      Test l = a;
      Test r = fact();
      a = p -> l.of(p) & r.of(p);
    }
    return a;
  }

  private Test fact() {
    Token t = peek();
    if (skip("not")) {
      opens(t);
      Test f = fact();
      open--;
      return p -> !f.of(p);
    }
    if (skip("[")) {
      opens(t);
      Test f = test();
      need("]");
      open--;
      return f;
    }
    Num l = sum();
    Token sign = next();
    if (!sign.is("<") && !sign.is(">") && !sign.is("=")) {
      throw new Fault(1, sign.place);
    }
    Num r = sum();
    return switch (sign.text) {
      case "<" -> p -> l.of(p) < r.of(p);
      case ">" -> p -> l.of(p) > r.of(p);
      default -> p -> l.of(p) == r.of(p);
    };
  }

  private Num sum() {
    Num a = term();
    while (peek().is("+") || peek().is("-")) {
      boolean plus = next().is("+");
      Num l = a;
      Num r = term();
      a = plus ? p -> l.of(p) + r.of(p) : p -> l.of(p) - r.of(p);
    }
    return a;
  }

  private Num term() {
    Num a = value();
    while (peek().is("*") || peek().is("/") || peek().is("%")) {
      Token sign = next();
      Num l = a;
      Num r = value();
      a = switch (sign.text) {
        case "*" -> p -> l.of(p) * r.of(p);
        case "/" -> p -> r.of(p) == 0 ? 0 : l.of(p) / r.of(p);
        default -> p -> r.of(p) == 0 ? 0 : l.of(p) % r.of(p);
      };
    }
    return a;
  }

  private Num value() {
    Token t = next();
    if (t.is("(")) {
      opens(t);
      Num n = sum();
      need(")");
      open--;
      return n;
    }
    Num n = null;
    if (t.type == 'd') {
      long c = Long.parseLong(t.text);
      n = p -> c;
    } else if (t.type == 'w') {
      n = fact(t.text);
    }
    if (n == null) {
      throw new Fault(1, t.place);
    }
    leaves++;
    if (leaves > 40) {
      throw new Fault(4, t.place);
    }
    return n;
  }

  private Num fact(String word) {
    return switch (word) {
      case "rounds" -> p -> p.told.rounds;
      case "round" -> p -> p.round;
      case "group" -> p -> p.dive(p.round).group;
      case "degree" -> p -> p.dive(p.round).degree;
      case "sum" -> p -> {
        long s = 0;
        for (int r = 1; r <= p.round; r++) {
          s += p.dive(r).degree;
        }
        return s;
      };
      case "seen" -> p -> {
        long s = 0;
        for (int r = 1; r <= p.round; r++) {
          s += p.dive(r).group == p.dive(p.round).group ? 1 : 0;
        }
        return s;
      };
      case "unlike" -> p -> {
        java.util.Set<Integer> groups = new java.util.HashSet<>();
        for (int r = 1; r <= p.round; r++) {
          groups.add(p.dive(r).group);
        }
        return groups.size();
      };
      case "pair" -> p -> p.pair ? 1 : 0;
      default -> null;
    };
  }

  List<Act> readScript(String text) {
    tokens = cutUp(text);
    at = 0;
    List<Act> acts = new ArrayList<>();
    while (peek().type != 'e') {
      Token t = next();
      if (t.type != 'w' || !Arrays.asList("marks", "all", "balk", "cap", "half", "fail", "give", "out")
          .contains(t.text)) {
        throw new Fault(1, t.place);
      }
      if (acts.size() == 60) {
        throw new Fault(4, t.place);
      }
      List<Integer> numbers = new ArrayList<>();
      switch (t.text) {
        case "marks" -> {
          numbers.add(number(0, 20));
          while (peek().type == 'd') {
            int place = peek().place;
            int n = number(0, 20);
            if (numbers.size() == 11) {
              throw new Fault(4, place);
            }
            numbers.add(n);
          }
        }
        case "all", "cap" -> numbers.add(number(0, 20));
        case "half" -> {
          Token h = next();
          if (!h.is("first") && !h.is("second")) {
            throw new Fault(1, h.place);
          }
          numbers.add(h.is("first") ? 0 : 1);
        }
        case "out" -> {
          Token n = name();
          int e = told == null ? -1 : told.entrant(n.text);
          if (e < 0) {
            throw new Fault(3, n.place);
          }
          numbers.add(e);
        }
        default -> {
        }
      }
      int times = skip("times") ? number(1, 20) : 1;
      need(";");
      acts.add(new Act(t.text, numbers, times));
    }
    return acts;
  }

  // ---- texts

  int feed(int a, int b, int c, int d, int e) {
    if (tape.length() > 1180) {
      return -1;
    }
    for (int n : new int[] {a, b, c, d, e}) {
      tape.append((char) (n >>> 24)).append((char) (n >>> 16 & 255));
      tape.append((char) (n >>> 8 & 255)).append((char) (n & 255));
    }
    return tape.length();
  }

  boolean end(int n) {
    if (n < 0 || n > tape.length()) {
      return false;
    }
    tape.setLength(n);
    return true;
  }

  private String takeTape() {
    String text = tape.toString();
    tape.setLength(0);
    return text;
  }

  int meet() {
    faultKind = 0;
    faultPlace = -1;
    try {
      told = readMeet(takeTape());
    } catch (Fault f) {
      faultKind = f.kind;
      faultPlace = f.place;
      return -1;
    }
    past.clear();
    kept = new Now[2];
    now = new Now();
    int n = told.entrants.size();
    now.lists = new int[n][];
    now.results = new Result[n][told.rounds];
    now.status = new int[n];
    now.from = new int[n];
    for (int e = 0; e < n; e++) {
      now.lists[e] = told.entrants.get(e).list.clone();
      now.order.add(e);
      for (int r = 0; r < told.rounds; r++) {
        now.results[e][r] = new Result();
      }
    }
    now.waiting.addAll(now.order);
    return told.statements;
  }

  int script() {
    faultKind = 0;
    faultPlace = -1;
    stoppedAt = -1;
    List<Act> acts;
    try {
      acts = readScript(takeTape());
    } catch (Fault f) {
      faultKind = f.kind;
      faultPlace = f.place;
      return -1;
    }
    Now before = now == null ? null : now.copy();
    int done = 0;
    for (int i = 0; i < acts.size(); i++) {
      for (int t = 0; t < acts.get(i).times; t++) {
        if (run(acts.get(i)) < 0) {
          now = before;
          stoppedAt = i;
          return -2;
        }
        done++;
      }
    }
    if (done > 0) {
      remember(before);
    }
    return done;
  }

  private int run(Act act) {
    switch (act.word) {
      case "marks": {
        if (who() < 0 || told.panel(who()).size() != act.numbers.size()) {
          return -3;
        }
        int k = 0;
        for (int j : told.panel(who())) {
          if (marks(j, act.numbers.get(k++)) < 0) {
            return -3;
          }
        }
        return 0;
      }
      case "all": {
        if (who() < 0) {
          return -3;
        }
        for (int j : told.panel(who())) {
          if (marks(j, act.numbers.get(0)) < 0) {
            return -3;
          }
        }
        return 0;
      }
      case "balk":
        return balks();
      case "cap":
        return caps(act.numbers.get(0));
      case "half":
        return halves(act.numbers.get(0));
      case "fail":
        return fails();
      case "give":
        return gives();
      default:
        return goesOut(act.numbers.get(0));
    }
  }

  int fault(int what) {
    return what == 0 ? faultKind : what == 1 ? faultPlace : -1;
  }

  int stopped() {
    return stoppedAt;
  }

  int named(int what) {
    List<Token> t = cutUp(takeTape());
    if (told == null || t.size() != 2 || t.get(0).type != 'n') {
      return -1;
    }
    return what == 0 ? told.dive(t.get(0).text) : what == 1 ? told.entrant(t.get(0).text) : -1;
  }

  // ---- what is told

  private boolean isE(int e) {
    return told != null && e >= 0 && e < told.entrants.size();
  }

  private boolean isJ(int j) {
    return told != null && j >= 0 && j < told.judges.size();
  }

  private boolean isD(int d) {
    return told != null && d >= 0 && d < told.dives.size();
  }

  private boolean isR(int r) {
    return told != null && r >= 1 && r <= told.rounds;
  }

  private boolean isER(int e, int r) {
    return isE(e) && isR(r);
  }

  private Result res(int e, int r) {
    return now.results[e][r - 1];
  }

  int look(int what) {
    if (what == 10) {
      return tape.length();
    }
    if (what == 7) {
      return past.size();
    }
    if (what < 0 || what > 10) {
      return -1;
    }
    if (told == null) {
      return 0;
    }
    return switch (what) {
      case 0 -> told.rounds;
      case 1 -> told.drop;
      case 2 -> told.judges.size();
      case 3 -> told.dives.size();
      case 4 -> told.entrants.size();
      case 5 -> told.laws.size();
      case 6 -> told.cuts.size();
      case 8 -> now.over ? 1 : 0;
      default -> in().size();
    };
  }

  int dive(int d, int what) {
    return !isD(d) ? -1 : what == 0 ? told.dives.get(d).group : what == 1 ? told.dives.get(d).degree : -1;
  }

  int entrant(int e, int what) {
    if (!isE(e)) {
      return -1;
    }
    return switch (what) {
      case 0 -> told.entrants.get(e).pair ? 1 : 0;
      case 1 -> told.entrants.get(e).land;
      case 2 -> now.status[e];
      case 3 -> (int) Arrays.stream(now.results[e]).filter(r -> r.given).count();
      default -> -1;
    };
  }

  int judge(int j, int what) {
    return !isJ(j) ? -1 : what == 0 ? told.judges.get(j).land : what == 1 ? told.judges.get(j).sort : -1;
  }

  int list(int e, int r) {
    return isER(e, r) ? now.lists[e][r - 1] : -1;
  }

  int form(int e, int g) {
    return isE(e) && g >= 1 && g <= 6 ? told.entrants.get(e).form[g - 1] : -1;
  }

  int cut(int c, int what) {
    if (told == null || c < 0 || c >= told.cuts.size()) {
      return -1;
    }
    Cut cut = told.cuts.get(c);
    return what == 0 ? cut.round : what == 1 ? cut.most : what == 2 ? (cut.anew ? 1 : 0) : -1;
  }

  // ---- lists and laws

  int law(int l, int e, int r) {
    if (!isER(e, r) || l < 0 || l >= told.laws.size()) {
      return -1;
    }
    return told.laws.get(l).of(new Place(told, now.lists[e], r, told.entrants.get(e).pair)) ? 1 : 0;
  }

  int breaks(int e, int what) {
    if (!isE(e) || what < 0 || what > 1) {
      return -1;
    }
    int r = told.firstBreak(now.lists[e], told.entrants.get(e).pair);
    if (what == 0) {
      return r;
    }
    return r == 0 ? -1 : told.brokenLaw(now.lists[e], r, told.entrants.get(e).pair);
  }

  int ways(int e) {
    return isE(e) ? told.rowsThatObey(told.entrants.get(e).pair).size() : -1;
  }

  int way(int e, int k, int r) {
    if (!isER(e, r) || k < 0 || k >= ways(e)) {
      return -1;
    }
    return told.rowsThatObey(told.entrants.get(e).pair).get(k)[r - 1];
  }

  int best(int e, int what) {
    if (!isE(e) || what < 0 || what > told.rounds) {
      return -1;
    }
    int most = -1;
    int[] first = null;
    for (int[] row : told.rowsThatObey(told.entrants.get(e).pair)) {
      int sum = 0;
      for (int d : row) {
        sum += told.formPoints(e, d);
      }
      if (sum > most) {
        most = sum;
        first = row;
      }
    }
    return what == 0 ? most : first == null ? -1 : first[what - 1];
  }

  // ---- the board

  private int who() {
    return now == null || now.over ? -1 : now.waiting.getFirst();
  }

  private Result here() {
    return res(who(), now.round);
  }

  private List<Integer> in() {
    List<Integer> in = new ArrayList<>();
    for (int e = 0; e < told.entrants.size(); e++) {
      if (now.status[e] == 0) {
        in.add(e);
      }
    }
    return in;
  }

  int board(int what) {
    if (who() < 0) {
      return -1;
    }
    return switch (what) {
      case 0 -> who();
      case 1 -> now.round;
      case 2 -> now.lists[who()][now.round - 1];
      case 3 -> here().awards.size();
      case 4 -> told.panel(who()).size();
      case 5 -> here().balks;
      case 6 -> here().cap;
      case 7 -> (here().firstHalf ? 1 : 0) + (here().secondHalf ? 2 : 0);
      case 8 -> here().failed ? 1 : 0;
      default -> -1;
    };
  }

  int marked(int j) {
    return who() < 0 || !isJ(j) ? -1 : here().awards.getOrDefault(j, -1);
  }

  private void remember(Now before) {
    past.addLast(before);
    if (past.size() > 20) {
      past.removeFirst();
    }
  }

  private int act(java.util.function.IntSupplier act) {
    Now before = now == null ? null : now.copy();
    int answer = act.getAsInt();
    if (answer >= 0) {
      remember(before);
    }
    return answer;
  }

  private int marks(int j, int award) {
    if (who() < 0 || here().failed || !told.panel(who()).contains(j)) {
      return -3;
    }
    here().awards.put(j, award);
    return here().awards.size();
  }

  private int balks() {
    if (who() < 0 || here().failed) {
      return -3;
    }
    here().balks++;
    if (here().balks == 2) {
      here().failed = true;
      here().awards.clear();
    }
    return here().balks;
  }

  private int caps(int award) {
    if (who() < 0 || here().failed) {
      return -3;
    }
    int was = here().cap;
    here().cap = award;
    return was;
  }

  private int halves(int which) {
    if (who() < 0 || here().failed || !told.entrants.get(who()).pair) {
      return -3;
    }
    if (which == 0 ? here().firstHalf : here().secondHalf) {
      return -3;
    }
    if (which == 0) {
      here().firstHalf = true;
    } else {
      here().secondHalf = true;
    }
    return board(7);
  }

  private int fails() {
    if (who() < 0 || here().failed) {
      return -3;
    }
    here().failed = true;
    here().awards.clear();
    return 0;
  }

  private int gives() {
    if (who() < 0) {
      return -3;
    }
    if (!here().failed && here().awards.size() < told.panel(who()).size()) {
      return -3;
    }
    Result r = here();
    r.points = pointsOf(who(), now.round, r.awards, told.drop);
    r.given = true;
    now.waiting.removeFirst();
    goOn();
    return r.points;
  }

  private int goesOut(int e) {
    if (now.over || now.status[e] != 0) {
      return -3;
    }
    now.status[e] = 7;
    now.waiting.remove((Integer) e);
    goOn();
    return in().size();
  }

  private void goOn() {
    if (!now.waiting.isEmpty()) {
      return;
    }
    for (Cut cut : told.cuts) {
      if (cut.round == now.round) {
        doCut(cut);
      }
    }
    if (now.round == told.rounds || in().isEmpty()) {
      now.over = true;
      return;
    }
    now.round++;
    for (int e : now.order) {
      if (now.status[e] == 0) {
        now.waiting.add(e);
      }
    }
  }

  private void doCut(Cut cut) {
    List<Integer> in = in();
    if (in.isEmpty()) {
      return;
    }
    Map<Integer, Integer> totals = new HashMap<>();
    for (int e : in) {
      totals.put(e, total(e, 0));
    }
    List<Integer> goOn = whoGoes(in, totals, cut.most);
    for (int e : in) {
      if (!goOn.contains(e)) {
        now.status[e] = now.round;
      } else if (cut.anew) {
        now.from[e] = now.round;
      }
    }
    now.order = new ArrayList<>(goOn);
    now.order.sort((a, b) -> totals.get(a).equals(totals.get(b)) ? b - a : totals.get(a) - totals.get(b));
  }

  private static List<Integer> whoGoes(List<Integer> in, Map<Integer, Integer> totals, int most) {
    List<Integer> sorted = new ArrayList<>(in);
    sorted.sort((a, b) -> totals.get(b) - totals.get(a));
    int last = totals.get(sorted.get(Math.min(most, sorted.size()) - 1));
    List<Integer> goOn = new ArrayList<>();
    for (int e : in) {
      if (totals.get(e) >= last) {
        goOn.add(e);
      }
    }
    return goOn;
  }

  int mark(int j, int award) {
    return !isJ(j) || award < 0 || award > 20 ? -2 : act(() -> marks(j, award));
  }

  int balk() {
    return act(this::balks);
  }

  int cap(int award) {
    return award < 0 || award > 20 ? -2 : act(() -> caps(award));
  }

  int half(int which) {
    return which != 0 && which != 1 ? -2 : act(() -> halves(which));
  }

  int fail() {
    return act(this::fails);
  }

  int give() {
    return act(this::gives);
  }

  int out(int e) {
    return !isE(e) ? -2 : act(() -> goesOut(e));
  }

  int change(int e, int r, int d) {
    if (!isER(e, r) || !isD(d)) {
      return -2;
    }
    return act(() -> {
      if (now.over || now.status[e] != 0 || res(e, r).given || who() == e && now.round == r) {
        return -3;
      }
      for (int x : now.lists[e]) {
        if (x == d) {
          return -3;
        }
      }
      int[] row = now.lists[e].clone();
      row[r - 1] = d;
      if (told.firstBreak(row, told.entrants.get(e).pair) != 0) {
        return -3;
      }
      int was = now.lists[e][r - 1];
      now.lists[e] = row;
      return was;
    });
  }

  int undo() {
    if (past.isEmpty()) {
      return -3;
    }
    now = past.removeLast();
    return past.size();
  }

  // ---- points, totals, ranks

  /** What counts of an award of a judge in a dive. */
  private int counts(Result r, int j, int award) {
    int c = Math.min(award, r.cap);
    switch (told.judges.get(j).sort) {
      case 1 -> c = r.firstHalf ? 0 : c;
      case 2 -> c = r.secondHalf ? 0 : c;
      case 3 -> c = (r.firstHalf || r.secondHalf) && c > 4 ? 4 : c;
      default -> {
      }
    }
    return r.balks == 0 ? c : Math.max(c - 4, 0);
  }

  /** By judges: 0 dropped among the first, 1 among the last, 2 kept. */
  private Map<Integer, Integer> fates(Result r, Map<Integer, Integer> awards, int drop) {
    Map<Integer, Integer> fates = new HashMap<>();
    for (int sort = 0; sort <= 3; sort++) {
      List<Integer> line = new ArrayList<>();
      for (int j : awards.keySet()) {
        if (told.judges.get(j).sort == sort) {
          line.add(j);
        }
      }
      line.sort((a, b) -> {
        int ca = counts(r, a, awards.get(a));
        int cb = counts(r, b, awards.get(b));
        return ca != cb ? ca - cb : a - b;
      });
      int d = Math.min(drop, Math.max(0, (line.size() - 1) / 2));
      for (int i = 0; i < line.size(); i++) {
        fates.put(line.get(i), i < d ? 0 : i >= line.size() - d ? 1 : 2);
      }
    }
    return fates;
  }

  private int pointsOf(int e, int round, Map<Integer, Integer> awards, int drop) {
    Result r = res(e, round);
    if (r.failed) {
      return 0;
    }
    int sum = 0;
    int n = 0;
    for (Map.Entry<Integer, Integer> f : fates(r, awards, drop).entrySet()) {
      if (f.getValue() == 2) {
        sum += counts(r, f.getKey(), awards.get(f.getKey()));
        n++;
      }
    }
    return sum * 15 * told.dives.get(now.lists[e][round - 1]).degree / n;
  }

  int points(int e, int r) {
    return isER(e, r) && res(e, r).given ? res(e, r).points : -1;
  }

  int award(int e, int r, int j, int what) {
    if (!isER(e, r) || !res(e, r).given || !res(e, r).awards.containsKey(j)) {
      return -1;
    }
    Result x = res(e, r);
    return switch (what) {
      case 0 -> x.awards.get(j);
      case 1 -> counts(x, j, x.awards.get(j));
      case 2 -> fates(x, x.awards, told.drop).get(j) == 2 ? 1 : 0;
      default -> -1;
    };
  }

  int kept(int e, int r) {
    if (!isER(e, r) || !res(e, r).given) {
      return -1;
    }
    int bits = 0;
    for (Map.Entry<Integer, Integer> f : fates(res(e, r), res(e, r).awards, told.drop).entrySet()) {
      bits += f.getValue() == 2 ? 1 << f.getKey() : 0;
    }
    return bits;
  }

  int total(int e, int what) {
    if (!isE(e) || what < 0 || what > 1) {
      return -1;
    }
    int sum = 0;
    for (int r = 1; r <= told.rounds; r++) {
      if (res(e, r).given && (what == 1 || r > now.from[e])) {
        sum += res(e, r).points;
      }
    }
    return sum;
  }

  private boolean ahead(int a, int b) {
    int sa = now.status[a];
    int sb = now.status[b];
    if (sa == sb) {
      return total(a, 0) > total(b, 0);
    }
    if (sa == 0 || sb == 0) {
      return sa == 0;
    }
    if (sa == 7 || sb == 7) {
      return sb == 7;
    }
    return sa > sb;
  }

  int rank(int e) {
    if (!isE(e)) {
      return -1;
    }
    int rank = 1;
    for (int o = 0; o < told.entrants.size(); o++) {
      rank += o != e && ahead(o, e) ? 1 : 0;
    }
    return rank;
  }

  int at(int i) {
    if (!isE(i)) {
      return -1;
    }
    List<Integer> all = new ArrayList<>();
    for (int e = 0; e < told.entrants.size(); e++) {
      all.add(e);
    }
    all.sort((a, b) -> rank(a) != rank(b) ? rank(a) - rank(b) : a - b);
    return all.get(i);
  }

  int sheet(int k) {
    StringBuilder page = new StringBuilder();
    for (int i = 0; told != null && i < told.entrants.size(); i++) {
      int e = at(i);
      page.append(String.format("%d %s %d.%02d;", rank(e), told.entrants.get(e).name,
          total(e, 0) / 100, total(e, 0) % 100));
    }
    return k == -1 ? page.length() : k >= 0 && k < page.length() ? page.charAt(k) : -1;
  }

  // ---- what would be

  int worth(int e, int r, int award) {
    if (!isER(e, r) || award < 0 || award > 20) {
      return -1;
    }
    return award * 15 * told.dives.get(now.lists[e][r - 1]).degree;
  }

  int needs(int e, int other) {
    if (!isE(e) || !isE(other) || e == other || now.status[e] != 0) {
      return -1;
    }
    for (int r = 1; r <= told.rounds; r++) {
      if (!res(e, r).given) {
        for (int a = 0; a <= 20; a++) {
          if (total(e, 0) + worth(e, r, a) > total(other, 0)) {
            return a;
          }
        }
        return -1;
      }
    }
    return -1;
  }

  int swing(int e, int r, int j) {
    if (award(e, r, j, 0) < 0) {
      return -1;
    }
    int least = Integer.MAX_VALUE;
    int most = 0;
    for (int a = 0; a <= 20; a++) {
      Map<Integer, Integer> awards = new HashMap<>(res(e, r).awards);
      awards.put(j, a);
      int p = pointsOf(e, r, awards, told.drop);
      least = Math.min(least, p);
      most = Math.max(most, p);
    }
    return most - least;
  }

  int bribes(int e, int r, int other) {
    if (!isER(e, r) || !isE(other) || e == other || !res(e, r).given) {
      return -1;
    }
    if (total(e, 0) > total(other, 0)) {
      return 0;
    }
    if (r <= now.from[e] || res(e, r).failed) {
      return -2;
    }
    List<Integer> panel = told.panel(e);
    int fewest = 99;
    for (int set = 1; set < 1 << panel.size(); set++) {
      if (Integer.bitCount(set) >= fewest) {
        continue;
      }
      Map<Integer, Integer> awards = new HashMap<>(res(e, r).awards);
      for (int i = 0; i < panel.size(); i++) {
        if ((set >> i & 1) == 1) {
          awards.put(panel.get(i), 20);
        }
      }
      if (total(e, 0) - res(e, r).points + pointsOf(e, r, awards, told.drop) > total(other, 0)) {
        fewest = Integer.bitCount(set);
      }
    }
    return fewest == 99 ? -2 : fewest;
  }

  int bias(int j, int what) {
    if (!isJ(j) || what < 0 || what > 3) {
      return Integer.MIN_VALUE;
    }
    int n = 0;
    int above = 0;
    for (int e = 0; e < told.entrants.size(); e++) {
      boolean own = told.entrants.get(e).land == told.judges.get(j).land;
      for (int r = 1; r <= told.rounds && own == what < 2; r++) {
        Result x = res(e, r);
        if (x.given && x.awards.containsKey(j)) {
          List<Integer> row = new ArrayList<>();
          for (int o : x.awards.keySet()) {
            if (told.judges.get(o).sort == told.judges.get(j).sort) {
              row.add(x.awards.get(o));
            }
          }
          row.sort(null);
          n++;
          above += x.awards.get(j) - row.get((row.size() - 1) / 2);
        }
      }
    }
    return what % 2 == 0 ? n : above;
  }

  int alike(int j, int o) {
    if (!isJ(j) || !isJ(o) || j == o) {
      return -1;
    }
    int n = 0;
    for (Result[] row : now.results) {
      for (Result x : row) {
        if (x.given && x.awards.containsKey(j) && x.awards.get(j).equals(x.awards.get(o))) {
          n++;
        }
      }
    }
    return n;
  }

  int dropped(int j, int what) {
    if (!isJ(j) || what < 0 || what > 2) {
      return -1;
    }
    int n = 0;
    for (Result[] row : now.results) {
      for (Result x : row) {
        if (x.given && x.awards.containsKey(j) && fates(x, x.awards, told.drop).get(j) == what) {
          n++;
        }
      }
    }
    return n;
  }

  int without(int j, int e) {
    if (!isJ(j) || !isE(e)) {
      return -1;
    }
    int sort = told.judges.get(j).sort;
    if (told.panel(e).contains(j) && told.judges.stream().filter(x -> x.sort == sort).count() == 1) {
      return -2;
    }
    int sum = 0;
    for (int r = now.from[e] + 1; r <= told.rounds; r++) {
      if (res(e, r).given) {
        Map<Integer, Integer> awards = new HashMap<>(res(e, r).awards);
        awards.remove(j);
        sum += pointsOf(e, r, awards, told.drop);
      }
    }
    return sum;
  }

  int asDrop(int drop, int e) {
    if (!isE(e) || drop < 0 || drop > 3) {
      return -1;
    }
    int sum = 0;
    for (int r = now.from[e] + 1; r <= told.rounds; r++) {
      sum += res(e, r).given ? pointsOf(e, r, res(e, r).awards, drop) : 0;
    }
    return sum;
  }

  private int byForm(int e, int last) {
    int sum = total(e, 0);
    for (int r = 1; r <= last; r++) {
      sum += res(e, r).given ? 0 : told.formPoints(e, now.lists[e][r - 1]);
    }
    return sum;
  }

  int expected(int e) {
    return isE(e) && now.status[e] == 0 ? byForm(e, told.rounds) : -1;
  }

  private Cut nextCut() {
    if (now.over) {
      return null;
    }
    return told.cuts.stream().filter(c -> c.round >= now.round).findFirst().orElse(null);
  }

  int goes(int e) {
    if (!isE(e) || now.status[e] != 0 || nextCut() == null) {
      return -1;
    }
    Map<Integer, Integer> totals = new HashMap<>();
    for (int o : in()) {
      totals.put(o, byForm(o, nextCut().round));
    }
    return whoGoes(in(), totals, nextCut().most).contains(e) ? 1 : 0;
  }

  private int[] bestRow;
  private int bestSum;

  int order(int e, int what) {
    if (!isE(e) || now.status[e] != 0 || what < 0 || what > told.rounds) {
      return -1;
    }
    List<Integer> free = new ArrayList<>();
    int[] row = now.lists[e].clone();
    for (int r = 1; r <= told.rounds; r++) {
      if (!res(e, r).given && !(who() == e && now.round == r)) {
        free.add(row[r - 1]);
        row[r - 1] = -1;
      }
    }
    free.sort(null);
    bestRow = null;
    bestSum = -1;
    tryOrders(e, row, free, 0, nextCut() == null ? told.rounds : nextCut().round);
    return bestRow == null ? -1 : what == 0 ? bestSum : bestRow[what - 1];
  }

  private void tryOrders(int e, int[] row, List<Integer> free, int i, int last) {
    if (i == row.length) {
      if (told.firstBreak(row, told.entrants.get(e).pair) != 0) {
        return;
      }
      int sum = 0;
      for (int r = 1; r <= last; r++) {
        sum += res(e, r).given ? 0 : told.formPoints(e, row[r - 1]);
      }
      if (sum > bestSum) {
        bestSum = sum;
        bestRow = row.clone();
      }
      return;
    }
    if (row[i] >= 0) {
      tryOrders(e, row, free, i + 1, last);
      return;
    }
    for (int d : new ArrayList<>(free)) {
      free.remove((Integer) d);
      row[i] = d;
      tryOrders(e, row, free, i + 1, last);
      row[i] = -1;
      free.add(d);
      free.sort(null);
    }
  }

  int wins(int seed, int n, int e) {
    if (!isE(e) || seed < 0 || seed > 999999 || n < 1 || n > 40) {
      return -1;
    }
    Now before = now;
    long x = seed;
    int won = 0;
    for (int run = 0; run < n; run++) {
      now = before.copy();
      while (who() >= 0) {
        now.results[who()][now.round - 1] = new Result();
        int award = told.formAward(who(), now.lists[who()][now.round - 1]);
        for (int j : told.panel(who())) {
          x = (x * 1103 + 12345) % 1000003;
          marks(j, Math.max(0, Math.min(20, award + (int) (x % 5) - 2)));
        }
        gives();
      }
      won += rank(e) == 1 ? 1 : 0;
    }
    now = before;
    return won;
  }

  // ---- kept

  private int allGiven() {
    int n = 0;
    for (Result[] row : now.results) {
      for (Result r : row) {
        n += r.given ? 1 : 0;
      }
    }
    return n;
  }

  int keep(int k) {
    if (k != 0 && k != 1) {
      return -2;
    }
    if (told == null) {
      return -3;
    }
    kept[k] = now.copy();
    return allGiven();
  }

  int back(int k) {
    if (k != 0 && k != 1) {
      return -2;
    }
    if (kept[k] == null) {
      return -3;
    }
    now = kept[k].copy();
    past.clear();
    return allGiven();
  }
}
