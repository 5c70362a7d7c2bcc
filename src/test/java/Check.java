/** What the project's tests share: feeding texts, and counting answers that are not due. */
final class Check {
  private final String title;
  private int wrong = 0;
  private int calls = 0;

  Check(String title) {
    this.title = title;
  }

  void due(String call, long want, long got) {
    calls++;
    if (got != want) {
      wrong++;
      if (wrong <= 40) {
        System.out.println(title + ": " + call + " answered " + got + ", due is " + want);
      }
    }
  }

  void isTrue(String what, boolean is) {
    due(what, 1, is ? 1 : 0);
  }

  void finish() {
    System.out.println(title + ": " + calls + " answers, " + wrong + " wrong");
    if (wrong > 0) {
      System.exit(1);
    }
  }

  /** Feeds a text of at most 1,200 signs; false if it would not go on the tape. */
  static boolean feed(DropTwo x, String text) {
    int before = x.look(10);
    StringBuilder full = new StringBuilder(text);
    while (full.length() % 20 != 0) {
      full.append(' ');
    }
    for (int i = 0; i < full.length(); i += 20) {
      int[] n = new int[5];
      for (int k = 0; k < 20; k++) {
        n[k / 4] = n[k / 4] << 8 | full.charAt(i + k) & 255;
      }
      if (x.feed(n[0], n[1], n[2], n[3], n[4]) < 0) {
        return false;
      }
    }
    return x.end(before + text.length());
  }

  static int meet(DropTwo x, String text) {
    feed(x, text);
    return x.meet();
  }

  static int script(DropTwo x, String text) {
    feed(x, text);
    return x.script();
  }

  static int named(DropTwo x, int what, String text) {
    feed(x, text);
    return x.named(what);
  }

  static String sheet(DropTwo x) {
    StringBuilder page = new StringBuilder();
    int length = x.sheet(-1);
    for (int k = 0; k < length; k++) {
      page.append((char) x.sheet(k));
    }
    return page.toString();
  }
}
