import java.util.ArrayList;
import java.util.List;
import java.util.Random;

/** All promises: random runs of calls, each answer held against that of the model. */
public final class ModelTest {
  private static final String[] CALLS = {
    "fault", "stopped", "look", "dive", "entrant", "judge", "list", "form", "cut", "law", "breaks",
    "ways", "way", "best", "board", "marked", "mark", "balk", "cap", "half", "fail", "give", "out",
    "change", "undo", "points", "award", "kept", "total", "rank", "at", "sheet", "worth", "needs",
    "swing", "bribes", "bias", "alike", "dropped", "without", "asDrop", "expected", "goes", "order",
    "wins", "keep", "back"
  };

  private final Random random;
  private final DropTwo x = new DropTwo();
  private final Model m = new Model();
  private final List<String> log = new ArrayList<>();
  private int calls = 0;
  private int wrong = 0;

  private ModelTest(long seed) {
    random = new Random(seed);
  }

  public static void main(String[] args) {
    int runs = args.length > 0 ? Integer.parseInt(args[0]) : 1500;
    long from = args.length > 1 ? Long.parseLong(args[1]) : 1;
    long calls = 0;
    int wrong = 0;
    for (long seed = from; seed < from + runs && wrong < 3; seed++) {
      ModelTest test = new ModelTest(seed);
      test.run();
      calls += test.calls;
      wrong += test.wrong;
      if (test.wrong > 0) {
        System.out.println("seed " + seed + ":");
        test.log.forEach(System.out::println);
      }
    }
    System.out.println("model: " + calls + " answers, " + wrong + " wrong runs");
    if (wrong > 0) {
      System.exit(1);
    }
  }

  private void due(String call, int got, int want) {
    calls++;
    log.add(call + " -> " + got + (got == want ? "" : "  WRONG, due is " + want));
    wrong += got == want ? 0 : 1;
  }

  private int below(int n) {
    return random.nextInt(n);
  }

  private boolean chance(int percent) {
    return below(100) < percent;
  }

  private void run() {
    if (chance(10)) {
      someCalls(5);
    }
    do {
      String text = chance(80) ? meetText() : spoil(meetText());
      feedBoth(text);
      due("meet()", x.meet(), m.meet());
      faults();
    } while (m.told == null && calls < 100 && wrong == 0);
    while (calls < 480 && wrong == 0) {
      int kind = below(100);
      if (kind < 25) {
        someCalls(1 + below(8));
      } else if (kind < 60) {
        play();
      } else if (kind < 70) {
        aScript();
      } else if (kind < 72) {
        aName();
      } else if (kind < 74) {
        feedBoth(chance(40) ? meetText() : spoil(meetText()));
        due("meet()", x.meet(), m.meet());
        faults();
      } else {
        readAll();
      }
    }
  }

  private void faults() {
    due("fault(0)", x.fault(0), m.fault(0));
    due("fault(1)", x.fault(1), m.fault(1));
  }

  private void feedBoth(String text) {
    String cut = text.length() > 1200 ? text.substring(0, 1200) : text;
    StringBuilder full = new StringBuilder(cut);
    while (full.length() % 20 != 0) {
      full.append((char) below(256));
    }
    log.add("text " + cut.replace("\n", "\\n"));
    for (int i = 0; i < full.length(); i += 20) {
      int[] n = new int[5];
      for (int k = 0; k < 20; k++) {
        n[k / 4] = n[k / 4] << 8 | full.charAt(i + k) & 255;
      }
      int got = x.feed(n[0], n[1], n[2], n[3], n[4]);
      int want = m.feed(n[0], n[1], n[2], n[3], n[4]);
      if (got != want) {
        due("feed", got, want);
      }
    }
    boolean got = x.end(cut.length());
    boolean want = m.end(cut.length());
    due("end", got ? 1 : 0, want ? 1 : 0);
  }

  // ---- texts

  private String gap() {
    return chance(93) ? " " : chance(50) ? "  " : "\n";
  }

  private String meetText() {
    List<String> s = new ArrayList<>();
    int rounds = chance(70) ? 1 + below(4) : 1 + below(6);
    s.add("rounds " + rounds + " drop " + below(4));
    boolean pairs = chance(50);
    boolean divers = !pairs || chance(50);
    int judges = 0;
    int most = chance(50) ? 6 : 11;
    List<Integer> sorts = new ArrayList<>();
    if (divers) {
      sorts.add(0);
    }
    if (pairs) {
      sorts.addAll(List.of(1, 2, 3));
    }
    while (sorts.size() < most && chance(90)) {
      sorts.add(divers && (!pairs || chance(40)) ? 0 : pairs ? 1 + below(3) : 0);
    }
    for (int sort : sorts) {
      s.add("judge land " + below(3) + new String[] {"", " first", " second", " together"}[sort]);
    }
    int dives = Math.min(10, rounds + below(chance(70) ? 3 : 6));
    for (int d = 0; d < dives; d++) {
      s.add("dive " + (char) ('a' + d) + "d group " + (1 + below(chance(50) ? 3 : 6)) + " degree " + (10 + below(51)));
    }
    int entrants = 1 + below(chance(70) ? 4 : 6);
    for (int e = 0; e < entrants; e++) {
      boolean pair = pairs && (!divers || chance(50));
      s.add((pair ? "pair " : "diver ") + (char) ('p' + e) + "e land " + below(3));
    }
    for (int e = 0; e < entrants; e++) {
      List<Integer> all = new ArrayList<>();
      for (int d = 0; d < dives; d++) {
        all.add(d);
      }
      java.util.Collections.shuffle(all, random);
      StringBuilder list = new StringBuilder("list " + (char) ('p' + e) + "e");
      for (int r = 0; r < rounds; r++) {
        list.append(" ").append((char) ('a' + all.get(r))).append('d');
      }
      s.add(list.toString());
      if (chance(50)) {
        StringBuilder form = new StringBuilder("form " + (char) ('p' + e) + "e");
        for (int g = 0; g < 6; g++) {
          form.append(' ').append(below(21));
        }
        s.add(form.toString());
      }
    }
    int laws = chance(60) ? below(3) : below(7);
    for (int l = 0; l < laws; l++) {
      s.add("law " + (chance(75) ? mildLaw() : test(3)));
    }
    int round = 0;
    for (int c = 0; c < 3 && chance(60); c++) {
      round += 1 + below(2);
      if (round < rounds) {
        s.add("cut " + round + " most " + (1 + below(chance(70) ? 3 : 5)) + (chance(40) ? " anew" : ""));
      }
    }
    StringBuilder text = new StringBuilder();
    for (String statement : s) {
      for (String piece : (statement + " ;").split(" ")) {
        text.append(piece).append(chance(3) ? gap() + gap() : gap());
      }
    }
    String all = text.toString();
    return all.length() > 1200 || chance(30) ? all.replaceAll("([0-9;]) +", "$1 ").replaceAll(" +;", ";").replaceAll("; +", ";") : all;
  }

  /** A law that many rows obey. */
  private String mildLaw() {
    return switch (below(8)) {
      case 0 -> "degree < " + (30 + below(40));
      case 1 -> "seen < " + (2 + below(3));
      case 2 -> "not round = 1 or degree < " + (20 + below(40));
      case 3 -> "sum < " + (60 + below(200)) + " or pair = " + below(2);
      case 4 -> "[ unlike + 1 > round - " + below(3) + " ]";
      case 5 -> "round < rounds or unlike > " + below(3);
      case 6 -> "( degree * 3 - group ) % 7 < " + (4 + below(4)) + " or group = " + (1 + below(6));
      default -> "sum / round > " + below(30) + " and 1 / 0 = 0";
    };
  }

  private String test(int depth) {
    StringBuilder t = new StringBuilder(fact(depth));
    for (int i = 0; i < 3 && chance(35); i++) {
      t.append(chance(50) ? " or " : " and ").append(fact(depth));
    }
    return t.toString();
  }

  private String fact(int depth) {
    if (depth > 0 && chance(20)) {
      return "not " + fact(depth - 1);
    }
    if (depth > 0 && chance(20)) {
      return "[ " + test(depth - 1) + " ]";
    }
    return sum(depth) + " " + "<>=".charAt(below(3)) + " " + sum(depth);
  }

  private String sum(int depth) {
    StringBuilder s = new StringBuilder(value(depth));
    for (int i = 0; i < 4 && chance(35); i++) {
      s.append(" ").append("+-*/%".charAt(below(5))).append(" ").append(value(depth));
    }
    return s.toString();
  }

  private String value(int depth) {
    if (depth > 0 && chance(15)) {
      return "( " + sum(depth - 1) + " )";
    }
    String[] words = {"rounds", "round", "group", "degree", "sum", "seen", "unlike", "pair"};
    return chance(60) ? words[below(8)] : "" + below(chance(80) ? 60 : 10000);
  }

  private String scriptText() {
    StringBuilder s = new StringBuilder();
    int acts = chance(95) ? below(8) : 55 + below(8);
    for (int i = 0; i < acts; i++) {
      switch (below(13)) {
        case 0, 1, 2, 3 -> s.append("all ").append(below(21)).append(";give");
        case 4, 5 -> {
          s.append("marks");
          int n = chance(85) && m.board(4) > 0 ? m.board(4) : 1 + below(12);
          for (int k = 0; k < n; k++) {
            s.append(' ').append(below(21));
          }
          if (chance(70)) {
            s.append(";give");
          }
        }
        case 6 -> s.append("balk");
        case 7 -> s.append("cap ").append(below(21));
        case 8 -> s.append(chance(50) ? "half first" : "half second");
        case 9 -> s.append("fail;give");
        case 10 -> s.append("give");
        case 11 -> s.append(chance(20) ? "out " + (char) ('p' + below(6)) + "e" : "all 9;give");
        default -> s.append("all ").append(below(21));
      }
      if (chance(8)) {
        s.append(" times ").append(chance(80) ? 1 + below(3) : below(23));
      }
      s.append(";").append(chance(20) ? gap() : "");
    }
    return s.toString();
  }

  private String spoil(String text) {
    List<Model.Token> tokens = new ArrayList<>(Model.cutUp(text));
    int changes = 1 + below(2);
    StringBuilder out = new StringBuilder(text);
    for (int i = 0; i < changes; i++) {
      Model.Token t = tokens.get(below(tokens.size()));
      String[] other = {
        "rounds", "drop", "judge", "land", "first", "dive", "group", "degree", "diver", "pair", "list",
        "form", "law", "cut", "most", "anew", "or", "and", "not", "round", "sum", "times", "marks", "all",
        "balk", "cap", "half", "fail", "give", "out", "ad", "bd", "pe", "qe", "zz", "toolong", "toolongg",
        "together", "togethers", "0", "1", "7", "8", "20", "21", "61", "9999", "10000", "00001", "0001", ";", "[", "]", "(", ")",
        "<", "=", ">", "+", "-", "*", "/", "%", "A", "\t", "_", "judge land 1;", "cut 1 most 1;",
        "dive zz group 1 degree 10;", "diver zz land 1;", "law 1 = 1;", "( ( (", "not not not not", "[ [ [ [",
        "not not not not not not 1 = 1 and not not not not not not not 1 = 1;",
        "law 1+1+1+1+1+1+1+1+1+1+1+1+1+1+1+1+1+1+1+1=1+1+1+1+1+1+1+1+1+1+1+1+1+1+1+1+1+1+1+1+1;",
        "law 1+1+1+1+1+1+1+1+1+1+1+1+1+1+1+1+1+1+1+1=1+1+1+1+1+1+1+1+1+1+1+1+1+1+1+1+1+1+1+sum;",
        "judge land 1;judge land 2;judge land 3;judge land 4;judge land 5;judge land 6;",
        "law 1=1;law 1=1;law 2=2;law 1=2;law 3=3;", "form pe 1 2 3 4 5 6;", "list pe ad;"
      };
      String with = other[below(other.length)];
      int at = Math.min(t.place(), out.length());
      int to = Math.min(t.place() + t.text().length(), out.length());
      switch (below(6)) {
        case 0 -> out.delete(at, to);
        case 1 -> out.insert(at, with + " ");
        case 2 -> out.replace(at, to, with);
        case 3 -> out.setLength(at);
        case 4 -> out.insert(at, (char) below(256));
        default -> out.insert(at, " " + with + " ");
      }
    }
    return out.toString();
  }

  // ---- calls

  private void aScript() {
    String text = chance(85) ? scriptText() : spoil(scriptText());
    feedBoth(text);
    due("script()", x.script(), m.script());
    faults();
    due("stopped()", x.stopped(), m.stopped());
    due("look(7)", x.look(7), m.look(7));
  }

  private void aName() {
    String[] names = {"ad", " bd ", "pe", "\nqe", "rounds", "", "ad bd", "zz", "toolongg", "pe;", "1"};
    int what = below(3);
    feedBoth(names[below(names.length)]);
    due("named(" + what + ")", x.named(what), m.named(what));
    faults();
    due("look(10)", x.look(10), m.look(10));
  }

  /** The dive at the board is marked and given, with something in between at times. */
  private void play() {
    if (m.look(8) == 1 && chance(80)) {
      if (chance(50)) {
        for (int i = below(20); i >= 0; i--) {
          call("undo", 0, 0, 0, 0);
        }
      } else {
        call("back", below(2), 0, 0, 0);
      }
      return;
    }
    for (int j = 0; j < m.look(2); j++) {
      if (m.board(4) > 0 && m.judge(j, 1) > 0 == (m.entrant(m.board(0), 0) == 1)) {
        call("mark", j, chance(50) ? below(21) : 8 + below(6), 0, 0);
      }
    }
    if (chance(15)) {
      call("cap", below(21), 0, 0, 0);
    }
    if (chance(15)) {
      call("balk", 0, 0, 0, 0);
    }
    if (chance(20)) {
      call("half", below(2), 0, 0, 0);
    }
    if (chance(5)) {
      call("fail", 0, 0, 0, 0);
    }
    if (chance(8)) {
      // Whoever is there may be the last one of a round, behind which a cut comes.
      call("out", m.board(0), 0, 0, 0);
      call("look", 9, 0, 0, 0);
    } else {
      call("give", 0, 0, 0, 0);
    }
    call("board", 0, 0, 0, 0);
    call("board", 1, 0, 0, 0);
  }

  /** One kind of question about all that there is. */
  private void readAll() {
    int entrants = m.look(4);
    int rounds = m.look(0);
    int judges = m.look(2);
    String[] kinds = {
      "total", "rank", "at", "points", "kept", "expected", "goes", "needs", "bribes", "without",
      "asDrop", "order", "best", "bias", "alike", "dropped", "swing", "award", "list", "breaks", "entrant"
    };
    String kind = kinds[below(kinds.length)];
    int a = below(Math.max(1, entrants));
    int j = below(Math.max(1, judges));
    switch (kind) {
      case "points", "kept", "list" -> {
        for (int r = 1; r <= rounds; r++) {
          call(kind, a, r, 0, 0);
        }
      }
      case "order", "best" -> {
        for (int r = 0; r <= rounds; r++) {
          call(kind, a, r, 0, 0);
        }
      }
      case "needs" -> {
        for (int b = 0; b < entrants; b++) {
          call(kind, a, b, 0, 0);
        }
      }
      case "bribes" -> {
        for (int b = 0; b < entrants; b++) {
          call(kind, a, 1 + below(rounds), b, 0);
        }
      }
      case "without", "alike" -> {
        for (int b = 0; b < Math.max(judges, entrants); b++) {
          call(kind, j, b, 0, 0);
        }
      }
      case "asDrop" -> {
        for (int d = 0; d < 4; d++) {
          call(kind, d, a, 0, 0);
        }
      }
      case "bias", "dropped" -> {
        for (int w = 0; w < 4; w++) {
          call(kind, j, w, 0, 0);
        }
      }
      case "swing", "award" -> {
        int r = 1 + below(rounds);
        for (int k = 0; k < judges; k++) {
          call(kind, a, r, k, below(3));
        }
      }
      case "breaks", "total", "entrant" -> {
        for (int e = 0; e < entrants; e++) {
          call(kind, e, below(3), 0, 0);
        }
      }
      default -> {
        for (int e = 0; e < entrants; e++) {
          call(kind, e, 0, 0, 0);
        }
      }
    }
  }

  private int near(int n) {
    return chance(97) ? below(Math.max(1, n)) : chance(50) ? -1 - below(2) : chance(50) ? n + below(3) : random.nextInt();
  }

  private void someCalls(int n) {
    int e = m.look(4);
    int r = m.look(0) + 1;
    int j = m.look(2);
    int d = m.look(3);
    for (int i = 0; i < n && wrong == 0; i++) {
      String c = CALLS[below(CALLS.length)];
      switch (c) {
        case "fault", "keep", "back", "half" -> call(c, near(2), 0, 0, 0);
        case "look" -> call(c, near(11), 0, 0, 0);
        case "dive" -> call(c, near(d), near(2), 0, 0);
        case "entrant" -> call(c, near(e), near(4), 0, 0);
        case "judge" -> call(c, near(j), near(2), 0, 0);
        case "list", "points", "kept", "best", "order" -> call(c, near(e), near(r), 0, 0);
        case "form" -> call(c, near(e), near(7), 0, 0);
        case "cut" -> call(c, near(m.look(6)), near(3), 0, 0);
        case "law" -> call(c, near(m.look(5)), near(e), near(r), 0);
        case "breaks", "total" -> call(c, near(e), near(2), 0, 0);
        case "ways", "rank", "at", "expected", "goes" -> call(c, near(e), 0, 0, 0);
        case "way" -> {
          int k = near(e);
          call(c, k, near(Math.max(1, m.ways(k))), near(r), 0);
        }
        case "board" -> call(c, near(9), 0, 0, 0);
        case "marked" -> call(c, near(j), 0, 0, 0);
        case "mark" -> call(c, near(j), near(21), 0, 0);
        case "cap" -> call(c, near(21), 0, 0, 0);
        case "out" -> {
          if (chance(15)) {
            call(c, near(e), 0, 0, 0);
          }
        }
        case "change" -> call(c, near(e), near(r), near(d), 0);
        case "award" -> call(c, near(e), near(r), near(j), near(3));
        case "sheet" -> call(c, near(60) - 1, 0, 0, 0);
        case "worth" -> call(c, near(e), near(r), near(21), 0);
        case "needs" -> call(c, near(e), near(e), 0, 0);
        case "swing" -> call(c, near(e), near(r), near(j), 0);
        case "bribes" -> call(c, near(e), near(r), near(e), 0);
        case "bias" -> call(c, near(j), near(4), 0, 0);
        case "alike" -> call(c, near(j), near(j), 0, 0);
        case "dropped" -> call(c, near(j), near(3), 0, 0);
        case "without" -> call(c, near(j), near(e), 0, 0);
        case "asDrop" -> call(c, near(4), near(e), 0, 0);
        case "wins" -> call(c, near(1000000), 1 + near(6), near(e), 0);
        case "fail", "balk" -> {
          if (chance(30)) {
            call(c, 0, 0, 0, 0);
          }
        }
        default -> call(c, 0, 0, 0, 0);
      }
    }
  }

  private void call(String c, int a, int b, int d, int e) {
    due(c + "(" + a + ", " + b + ", " + d + ", " + e + ")", ask(c, a, b, d, e), askModel(c, a, b, d, e));
  }

  private int ask(String c, int a, int b, int d, int e) {
    return switch (c) {
      case "fault" -> x.fault(a);
      case "stopped" -> x.stopped();
      case "look" -> x.look(a);
      case "dive" -> x.dive(a, b);
      case "entrant" -> x.entrant(a, b);
      case "judge" -> x.judge(a, b);
      case "list" -> x.list(a, b);
      case "form" -> x.form(a, b);
      case "cut" -> x.cut(a, b);
      case "law" -> x.law(a, b, d);
      case "breaks" -> x.breaks(a, b);
      case "ways" -> x.ways(a);
      case "way" -> x.way(a, b, d);
      case "best" -> x.best(a, b);
      case "board" -> x.board(a);
      case "marked" -> x.marked(a);
      case "mark" -> x.mark(a, b);
      case "balk" -> x.balk();
      case "cap" -> x.cap(a);
      case "half" -> x.half(a);
      case "fail" -> x.fail();
      case "give" -> x.give();
      case "out" -> x.out(a);
      case "change" -> x.change(a, b, d);
      case "undo" -> x.undo();
      case "points" -> x.points(a, b);
      case "award" -> x.award(a, b, d, e);
      case "kept" -> x.kept(a, b);
      case "total" -> x.total(a, b);
      case "rank" -> x.rank(a);
      case "at" -> x.at(a);
      case "sheet" -> x.sheet(a);
      case "worth" -> x.worth(a, b, d);
      case "needs" -> x.needs(a, b);
      case "swing" -> x.swing(a, b, d);
      case "bribes" -> x.bribes(a, b, d);
      case "bias" -> x.bias(a, b);
      case "alike" -> x.alike(a, b);
      case "dropped" -> x.dropped(a, b);
      case "without" -> x.without(a, b);
      case "asDrop" -> x.asDrop(a, b);
      case "expected" -> x.expected(a);
      case "goes" -> x.goes(a);
      case "order" -> x.order(a, b);
      case "wins" -> x.wins(a, b, d);
      case "keep" -> x.keep(a);
      case "back" -> x.back(a);
      default -> throw new IllegalStateException(c);
    };
  }

  private int askModel(String c, int a, int b, int d, int e) {
    return switch (c) {
      case "fault" -> m.fault(a);
      case "stopped" -> m.stopped();
      case "look" -> m.look(a);
      case "dive" -> m.dive(a, b);
      case "entrant" -> m.entrant(a, b);
      case "judge" -> m.judge(a, b);
      case "list" -> m.list(a, b);
      case "form" -> m.form(a, b);
      case "cut" -> m.cut(a, b);
      case "law" -> m.law(a, b, d);
      case "breaks" -> m.breaks(a, b);
      case "ways" -> m.ways(a);
      case "way" -> m.way(a, b, d);
      case "best" -> m.best(a, b);
      case "board" -> m.board(a);
      case "marked" -> m.marked(a);
      case "mark" -> m.mark(a, b);
      case "balk" -> m.balk();
      case "cap" -> m.cap(a);
      case "half" -> m.half(a);
      case "fail" -> m.fail();
      case "give" -> m.give();
      case "out" -> m.out(a);
      case "change" -> m.change(a, b, d);
      case "undo" -> m.undo();
      case "points" -> m.points(a, b);
      case "award" -> m.award(a, b, d, e);
      case "kept" -> m.kept(a, b);
      case "total" -> m.total(a, b);
      case "rank" -> m.rank(a);
      case "at" -> m.at(a);
      case "sheet" -> m.sheet(a);
      case "worth" -> m.worth(a, b, d);
      case "needs" -> m.needs(a, b);
      case "swing" -> m.swing(a, b, d);
      case "bribes" -> m.bribes(a, b, d);
      case "bias" -> m.bias(a, b);
      case "alike" -> m.alike(a, b);
      case "dropped" -> m.dropped(a, b);
      case "without" -> m.without(a, b);
      case "asDrop" -> m.asDrop(a, b);
      case "expected" -> m.expected(a);
      case "goes" -> m.goes(a);
      case "order" -> m.order(a, b);
      case "wins" -> m.wins(a, b, d);
      case "keep" -> m.keep(a);
      case "back" -> m.back(a);
      default -> throw new IllegalStateException(c);
    };
  }
}
