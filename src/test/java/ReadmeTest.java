import java.lang.reflect.Method;
import java.lang.reflect.Modifier;
import java.nio.file.Files;
import java.nio.file.Path;
import java.util.regex.Matcher;
import java.util.regex.Pattern;

/** README.md: the calls of its example have the answers that stand behind them. */
public final class ReadmeTest {
  private static final Check CHECK = new Check("readme");
  private static final Pattern ANSWERED = Pattern.compile("x\\.(\\w+)\\(([-\\d, ]*)\\); *// (-?\\d+).*");
  private static final Pattern TEXT = Pattern.compile("\"([^\"]*)\"");
  private static final Pattern SHEET = Pattern.compile("the sheet is \"([^\"]*)\"");
  private static final String EXAMPLE = "DropTwo x = new DropTwo();";

  public static void main(String[] args) throws Exception {
    String page = Files.readString(Path.of("README.md"));
    namesAllCalls(page);
    hasThisFeed(block(page, "static void feed("));
    String example = block(page, EXAMPLE);
    DropTwo x = new DropTwo();
    int answers = 0;
    // A text stands on several lines, so they are joined ahead of the reading line by line.
    for (String line : example.replaceAll("\\n *\\+", " +").split("\n")) {
      if (line.startsWith("feed(x, ")) {
        feed(x, textOf(line));
      } else if (!line.equals(EXAMPLE)) {
        answers++;
        ask(x, line);
      }
    }
    CHECK.isTrue("the example has calls", answers > 20);
    Matcher sheet = SHEET.matcher(example);
    CHECK.isTrue("the sheet is as told", sheet.find() && sheet.group(1).equals(Check.sheet(x)));
    CHECK.finish();
  }

  /** A piece of code from a line on that begins it; none if the page has no such line. */
  private static String block(String page, String begin) {
    int from = page.indexOf(begin);
    CHECK.isTrue("the page has " + begin, from >= 0);
    return from < 0 ? "" : page.substring(from, page.indexOf("```", from));
  }

  /** The page's own way of feeding; its lines stand here as they stand there. */
  static void feed(DropTwo x, String text) {
    for (int i = 0; i < text.length(); i += 20) {
      int[] n = new int[5];
      for (int k = 0; k < 20; k++) {
        char sign = i + k < text.length() ? text.charAt(i + k) : ' ';
        n[k / 4] = n[k / 4] << 8 | sign;
      }
      x.feed(n[0], n[1], n[2], n[3], n[4]);
    }
    x.end(text.length());
  }

  private static void hasThisFeed(String told) throws Exception {
    String here = Files.readString(Path.of("src/test/java/ReadmeTest.java"));
    CHECK.isTrue("feed stands here as on the page", here.contains(told.trim().replaceAll("(?m)^", "  ").trim()));
  }

  private static String textOf(String line) {
    StringBuilder text = new StringBuilder();
    Matcher piece = TEXT.matcher(line);
    while (piece.find()) {
      text.append(piece.group(1));
    }
    return text.toString();
  }

  private static void ask(DropTwo x, String line) throws Exception {
    Matcher call = ANSWERED.matcher(line);
    if (!call.matches()) {
      CHECK.isTrue("\"" + line + "\" has an answer", false);
      return;
    }
    String[] told = call.group(2).isEmpty() ? new String[0] : call.group(2).split(", *");
    Object[] values = new Object[told.length];
    for (int i = 0; i < told.length; i++) {
      values[i] = Integer.parseInt(told[i]);
    }
    for (Method method : DropTwo.class.getDeclaredMethods()) {
      if (Modifier.isPublic(method.getModifiers()) && method.getName().equals(call.group(1))) {
        CHECK.due(line, Integer.parseInt(call.group(3)), (Integer) method.invoke(x, values));
        return;
      }
    }
    CHECK.isTrue("\"" + line + "\" is a call of the class", false);
  }

  private static void namesAllCalls(String page) {
    int from = page.indexOf("| calls |");
    CHECK.isTrue("the page has a table of calls", from >= 0);
    String table = page.substring(Math.max(0, from));
    for (Method method : DropTwo.class.getDeclaredMethods()) {
      if (Modifier.isPublic(method.getModifiers())) {
        CHECK.isTrue("the table has " + method.getName(), table.contains("`" + method.getName() + "`"));
      }
    }
  }
}
