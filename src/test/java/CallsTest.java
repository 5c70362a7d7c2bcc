import java.io.ByteArrayOutputStream;
import java.io.PrintStream;
import java.nio.file.Path;
import java.util.ArrayList;
import java.util.List;
import java.util.Map;
import java.util.Set;
import java.util.TreeMap;
import java.util.TreeSet;
import java.util.regex.Matcher;
import java.util.regex.Pattern;
import java.util.spi.ToolProvider;

/**
 * ../shared/LANGUAGE.md, what the compiled class shows: how deep calls go, which of them come back to
 * themselves (rules 8, 11), where something is made (12), and what of the library is called (4).
 */
public final class CallsTest {
  private static final int DEEPEST = 8;
  private static final Check CHECK = new Check("calls");
  private static final Pattern METHOD = Pattern.compile("  (?:[\\w.$\\[\\]]+ )*([\\w.$]+)\\(.*\\);");
  private static final Pattern CALL =
      Pattern.compile("\\d+: invoke.*// (?:Interface)?Method ([^:]*):.*");
  private static final Pattern MAKING = Pattern.compile("\\d+: (?:new|newarray|anewarray|multianewarray) .*");
  private static final Pattern THROWING = Pattern.compile("\\d+: (?:athrow|invokedynamic|checkcast|monitorenter).*");
  /** Only the reading of laws may come back to itself; the depth goes with it as an argument. */
  private static final Set<String> READING = Set.of("readTest", "readBoth", "readFact", "readSum", "readTerm", "readValue");
  private static final Set<String> LIBRARY = Set.of(
      "java/lang/Object.<init>", "java/lang/String.length", "java/lang/String.charAt",
      "java/lang/StringBuilder.<init>", "java/lang/StringBuilder.append", "java/lang/StringBuilder.charAt",
      "java/lang/StringBuilder.setLength", "java/lang/StringBuilder.length", "java/lang/Math.min",
      "java/lang/Math.max", "java/lang/Integer.bitCount", "java/lang/System.arraycopy", "java/util/Arrays.fill");

  private final Map<String, Set<String>> calls = new TreeMap<>();
  private final Map<String, Integer> depths = new TreeMap<>();

  public static void main(String[] args) throws Exception {
    ToolProvider reader = ToolProvider.findFirst("javap").orElse(null);
    if (reader == null) {
      System.out.println("calls: not looked at, this Java can't show a compiled class");
      return;
    }
    CallsTest test = new CallsTest();
    Path room = Path.of(DropTwo.class.getProtectionDomain().getCodeSource().getLocation().toURI());
    test.read(reader, room, DropTwo.class);
    for (Class<?> inside : DropTwo.class.getDeclaredClasses()) {
      test.read(reader, room, inside);
    }
    test.look();
    CHECK.finish();
  }

  private void read(ToolProvider reader, Path room, Class<?> type) {
    ByteArrayOutputStream shown = new ByteArrayOutputStream();
    PrintStream out = new PrintStream(shown);
    String file = room.resolve(type.getName() + ".class").toString();
    CHECK.due("showing " + type, 0, reader.run(out, System.err, "-c", "-p", file));
    String method = "";
    for (String line : shown.toString().split("\n")) {
      Matcher head = METHOD.matcher(line);
      if (head.matches()) {
        String name = head.group(1).equals(type.getName()) ? "<init>" : head.group(1);
        method = type.getName() + "." + name;
        calls.putIfAbsent(method, new TreeSet<>());
      }
      String step = line.trim();
      Matcher call = CALL.matcher(step);
      if (call.matches()) {
        String name = call.group(1).replace("\"", "");
        calls.get(method).add(name.contains(".") ? name : type.getName() + "." + name);
      }
      if (MAKING.matcher(step).matches()) {
        CHECK.isTrue(method + " makes something: " + step, method.endsWith("<init>"));
      }
      CHECK.isTrue(method + " has " + step, !THROWING.matcher(step).matches());
    }
  }

  private void look() {
    CHECK.isTrue("methods were read", calls.size() > 100);
    for (Map.Entry<String, Set<String>> method : calls.entrySet()) {
      String name = method.getKey();
      boolean isReading = name.startsWith("DropTwo$Laws.") && READING.contains(name.substring(13));
      CHECK.isTrue(name + " comes back to itself", isReading == comesBack(name));
      for (String called : method.getValue()) {
        CHECK.isTrue(name + " calls " + called, calls.containsKey(called) || LIBRARY.contains(called));
      }
    }
    for (String name : calls.keySet()) {
      int deep = depthOf(name);
      CHECK.isTrue(name + " goes " + deep + " deep", deep <= DEEPEST);
    }
  }

  private boolean comesBack(String name) {
    return allBehind(name).contains(name);
  }

  /** All that a method calls, and what these call, and so on. */
  private Set<String> allBehind(String name) {
    Set<String> seen = new TreeSet<>();
    List<String> open = new ArrayList<>(calls.getOrDefault(name, Set.of()));
    while (!open.isEmpty()) {
      String next = open.remove(open.size() - 1);
      if (seen.add(next) && calls.containsKey(next)) {
        open.addAll(calls.get(next));
      }
    }
    return seen;
  }

  /** How many calls stand open at most, those that come back to themselves aside. */
  private int depthOf(String name) {
    Integer known = depths.get(name);
    if (known != null) {
      return known;
    }
    // Methods that call one another are looked at as one.
    Set<String> group = new TreeSet<>();
    if (comesBack(name)) {
      group.addAll(allBehind(name));
      group.removeIf(other -> !allBehind(other).contains(name));
    } else {
      group.add(name);
    }
    int deepest = 0;
    for (String member : group) {
      for (String called : calls.getOrDefault(member, Set.of())) {
        deepest = Math.max(deepest, group.contains(called) ? 0 : depthOf(called));
      }
    }
    depths.put(name, deepest + (comesBack(name) ? 0 : 1));
    return depths.get(name);
  }
}
