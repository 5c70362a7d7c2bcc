import java.nio.file.Files;
import java.nio.file.Path;
import java.util.ArrayList;
import java.util.Arrays;
import java.util.List;
import java.util.function.IntUnaryOperator;

/**
 * Tests by sentences: each one says which promise and which sentence of ../shared/DOC.md it tests.
 * The sentence must stand there word by word, and at the end none may be left without a test.
 */
final class Edges {
  /** The terms, which stand ahead of all promises. */
  static final int TERMS = 0;
  private static final int PROMISES = 53;

  private final String[] parts = new String[PROMISES + 1];
  private final boolean[][] isTested = new boolean[PROMISES + 1][];
  private final List<String> failures = new ArrayList<>();
  private String running = "no sentence";
  private int sentences = 0;
  private int answers = 0;

  Edges() throws Exception {
    String doc = Files.readString(Path.of("../shared/DOC.md"));
    parts[TERMS] = flat(between(doc, "An object is used", "## The public face")
        + between(doc, "## Terms", "## Promise 1:"));
    for (int promise = 1; promise <= PROMISES; promise++) {
      String next = promise == PROMISES ? "## Not promised" : "## Promise " + (promise + 1) + ":";
      String part = between(doc, "## Promise " + promise + ":", next);
      parts[promise] = flat(part.substring(part.indexOf("`: ") + 3));
    }
    for (int promise = 0; promise <= PROMISES; promise++) {
      isTested[promise] = new boolean[parts[promise].length()];
    }
  }

  private static String between(String doc, String from, String to) {
    return doc.substring(doc.indexOf(from), doc.indexOf(to));
  }

  private static String flat(String text) {
    return text.replaceAll("\\s+", " ").trim();
  }

  /** Runs the test of a sentence. */
  void says(int promise, String sentence, Runnable test) {
    running = (promise == TERMS ? "Terms" : "Promise " + promise) + " \"" + sentence + "\"";
    sentences++;
    int from = parts[promise].indexOf(sentence);
    if (from < 0) {
      fail("does not stand in the document");
      return;
    }
    for (; from >= 0; from = parts[promise].indexOf(sentence, from + 1)) {
      Arrays.fill(isTested[promise], from, from + sentence.length(), true);
    }
    int before = answers;
    try {
      test.run();
    } catch (RuntimeException e) {
      fail("threw " + e);
    }
    if (answers == before) {
      fail("has a test without an answer");
    }
  }

  private void fail(String why) {
    failures.add(running + ": " + why);
  }

  void due(String call, long want, long got) {
    answers++;
    if (got != want) {
      fail(call + " answered " + got + ", due is " + want);
    }
  }

  void isTrue(String what, boolean is) {
    due(what, 1, is ? 1 : 0);
  }

  /** An argument just ahead of the least and just behind the greatest one, and far off. */
  void beyond(String call, int least, int most, int want, IntUnaryOperator answer) {
    for (int value : new int[] {least - 1, most + 1, Integer.MIN_VALUE, Integer.MAX_VALUE}) {
      due(call + " with " + value, want, answer.applyAsInt(value));
    }
  }

  /** No part of the document may be without a test; what only orders the text aside. */
  private void lookForUntested() {
    running = "SentencesOfTheDocument";
    for (int promise = 0; promise <= PROMISES; promise++) {
      StringBuilder left = new StringBuilder();
      for (int i = 0; i < parts[promise].length(); i++) {
        left.append(isTested[promise][i] ? '\t' : parts[promise].charAt(i));
      }
      String rest = left.toString()
          .replaceAll("Ahead of the calls [^\t]*? the interface says: ---- [a-z, ]+\\.", "\t")
          .replace("## Terms", "\t")
          .replace("```text", "\t")
          .replaceAll("```( ==== \\d\\.)?", "\t")
          .replace("The constants:", "\t");
      for (String piece : rest.split("\t")) {
        if (piece.matches("(?s).*[A-Za-z0-9].*")) {
          fail((promise == TERMS ? "the terms" : "promise " + promise) + ": no test says \"" + piece.trim() + "\"");
        }
      }
    }
  }

  void finish() {
    lookForUntested();
    failures.forEach(System.out::println);
    System.out.println("edges: " + sentences + " sentences, " + answers + " answers, " + failures.size() + " wrong");
    if (!failures.isEmpty()) {
      System.exit(1);
    }
  }

  // ---- what the tests do again and again

  /** A new object with a meet. */
  DropTwo meet(String text) {
    DropTwo x = new DropTwo();
    isTrue("meet of " + text, Check.meet(x, text) > 0);
    return x;
  }

  /** A script that can be done. */
  void act(DropTwo x, String text) {
    isTrue("script of " + text, Check.script(x, text) >= 0);
  }

  /** A meet's text is good, on a new object. */
  void good(int statements, String text) {
    DropTwo x = new DropTwo();
    due("meet of " + text, statements, Check.meet(x, text));
    due("fault(0) of " + text, 0, x.fault(0));
    due("fault(1) of " + text, -1, x.fault(1));
  }

  /** A meet's text has a fault where ^ stands (which is no part of it). */
  void fault(int kind, String text) {
    DropTwo x = new DropTwo();
    due("meet of " + text, -1, Check.meet(x, text.replace("^", "")));
    due("fault(0) of " + text, kind, x.fault(0));
    due("fault(1) of " + text, text.indexOf('^'), x.fault(1));
  }

  /** A script's text has a fault where ^ stands (which is no part of it). */
  void scriptFault(DropTwo x, int kind, String text) {
    due("script of " + text, -1, Check.script(x, text.replace("^", "")));
    due("fault(0) of " + text, kind, x.fault(0));
    due("fault(1) of " + text, text.indexOf('^'), x.fault(1));
  }

  /** All that can be read of an object by its calls, but the tape, faults and stopped(). */
  static String view(DropTwo x) {
    StringBuilder all = new StringBuilder();
    for (int what = 0; what <= 9; what++) {
      all.append(x.look(what)).append(' ').append(x.board(what)).append(' ');
    }
    for (int judge = 0; judge < x.look(2); judge++) {
      all.append(x.marked(judge)).append(' ');
    }
    for (int entrant = 0; entrant < x.look(4); entrant++) {
      all.append(x.entrant(entrant, 2)).append(' ').append(x.total(entrant, 0)).append(' ');
      for (int round = 1; round <= x.look(0); round++) {
        all.append(x.list(entrant, round)).append(' ').append(x.points(entrant, round)).append(' ');
        all.append(x.kept(entrant, round)).append(' ');
      }
    }
    return all.toString();
  }

  /** What a test can see stays as it was. */
  void stays(String what, DropTwo x, Runnable calls) {
    String before = view(x);
    calls.run();
    String after = view(x);
    isTrue(what + " changed " + before + " to " + after, before.equals(after));
  }
}
