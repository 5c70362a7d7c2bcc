/** Promises 2 to 8: the tape, meets, scripts, names. */
public final class TextsTest {
  private static final Check CHECK = new Check("texts");
  private static final String MEET =
      "rounds 2 drop 0;judge land 1;judge land 2;dive fa group 1 degree 20;dive ba group 2 degree 30;"
          + "dive re group 3 degree 25;diver ann land 1;diver bob land 2;list ann fa ba;list bob ba re;";

  public static void main(String[] args) {
    feeding();
    ending();
    meeting();
    scripting();
    stopping();
    naming();
    CHECK.finish();
  }

  private static void feeding() {
    DropTwo x = new DropTwo();
    for (int i = 1; i <= 60; i++) {
      CHECK.due("feed " + i, 20 * i, x.feed(-1, i, 0, Integer.MIN_VALUE, Integer.MAX_VALUE));
    }
    CHECK.due("feed 61", -1, x.feed(0, 0, 0, 0, 0));
    CHECK.due("look(10)", 1200, x.look(10));
    CHECK.isTrue("end(1181)", x.end(1181));
    CHECK.due("feed beyond", -1, x.feed(0, 0, 0, 0, 0));
    CHECK.due("look(10)", 1181, x.look(10));
    CHECK.isTrue("end(1180)", x.end(1180));
    CHECK.due("feed just so", 1200, x.feed(0, 0, 0, 0, 0));
    // "fa" stands at the begin: the highest byte of the first number comes first.
    DropTwo y = new DropTwo();
    Check.meet(y, MEET);
    y.feed(0x66612020, 0x20202020, 0x20202020, 0x20202020, 0x0a202020);
    CHECK.due("named by bytes", 0, y.named(0));
    y.feed(0x20202020, 0x20202020, 0x20202020, 0x20202020, 0x20202062);
    y.feed(0x61202020, 0x20202020, 0x20202020, 0x20202020, 0x20202020);
    CHECK.due("named over two feeds", 1, y.named(0));
  }

  private static void ending() {
    DropTwo x = new DropTwo();
    CHECK.isTrue("end(0) of none", x.end(0));
    CHECK.isTrue("end(1) of none", !x.end(1));
    x.feed(0, 0, 0, 0, 0);
    CHECK.isTrue("end(-1)", !x.end(-1));
    CHECK.isTrue("end(21)", !x.end(21));
    CHECK.isTrue("end(max)", !x.end(Integer.MAX_VALUE));
    CHECK.isTrue("end(min)", !x.end(Integer.MIN_VALUE));
    CHECK.due("look(10)", 20, x.look(10));
    CHECK.isTrue("end(20)", x.end(20));
    CHECK.isTrue("end(3)", x.end(3));
    CHECK.due("look(10)", 3, x.look(10));
    CHECK.isTrue("end(4)", !x.end(4));
  }

  private static void meeting() {
    DropTwo x = new DropTwo();
    CHECK.due("meet", 10, Check.meet(x, MEET));
    CHECK.due("look(10)", 0, x.look(10));
    CHECK.due("mark", 1, x.mark(0, 3));
    CHECK.due("change", 1, x.change(0, 2, 2));
    CHECK.due("keep", 0, x.keep(1));
    CHECK.due("meet again", 10, Check.meet(x, MEET));
    CHECK.due("at its begin", -1, x.marked(0));
    CHECK.due("lists as told", 1, x.list(0, 2));
    CHECK.due("nothing can be undone", -3, x.undo());
    CHECK.due("nothing is kept", -3, x.back(1));
    CHECK.due("the longest text", -1, Check.meet(x, MEET + " ".repeat(1200 - MEET.length() - 1) + "x"));
    CHECK.due("its fault's place", 1199, x.fault(1));
    CHECK.due("blanks to the end", 10, Check.meet(x, MEET + "\n".repeat(1200 - MEET.length())));
    CHECK.due("forms may come again", 12, Check.meet(x, MEET + "form ann 1 2 3 4 5 6;form ann 0 0 0 0 0 20;"));
    CHECK.due("the last one counts", 0, x.form(0, 1));
    CHECK.due("the last one counts", 20, x.form(0, 6));
    CHECK.due("not told", 10, x.form(1, 6));
  }

  private static void scripting() {
    DropTwo x = new DropTwo();
    Check.meet(x, MEET);
    CHECK.due("no acts", 0, Check.script(x, " \n"));
    CHECK.due("no act was one", 0, x.look(7));
    CHECK.due("each as often as told", 5, Check.script(x, "marks 4 5 times 3;cap 3 times 2;"));
    CHECK.due("one act", 1, x.look(7));
    CHECK.due("marked(0)", 4, x.marked(0));
    CHECK.due("marked(1)", 5, x.marked(1));
    CHECK.due("cap", 3, x.board(6));
    CHECK.due("all", 3, Check.script(x, "all 6;give;fail;"));
    CHECK.due("points", 900, x.points(0, 1));
    CHECK.due("failed", 1, x.board(8));
    CHECK.due("give", 1, Check.script(x, "give;"));
    CHECK.due("points", 0, x.points(1, 1));
    CHECK.due("two balks fail it, marks are gone", 4, Check.script(x, "all 9;balk times 2;give;"));
    CHECK.due("points", 0, x.points(0, 2));
    CHECK.due("out", 1, Check.script(x, "out bob;"));
    CHECK.due("over", 1, x.look(8));
    CHECK.due("nothing more", -2, Check.script(x, "give;"));
    CHECK.due("acts", 5, x.look(7));
    CHECK.due("sixty acts", 60, Check.script(fresh(), "cap 1;".repeat(60)));
    CHECK.due("twenty times sixty", 1200, Check.script(fresh(), "cap 1 times 20;".repeat(60)));
  }

  private static DropTwo fresh() {
    DropTwo x = new DropTwo();
    Check.meet(x, MEET);
    return x;
  }

  private static void stopping() {
    DropTwo x = fresh();
    CHECK.due("not as many marks", -2, Check.script(x, "cap 4;marks 1 2 3;"));
    CHECK.due("stopped", 1, x.stopped());
    CHECK.due("no fault", 0, x.fault(0));
    CHECK.due("as it was", 20, x.board(6));
    CHECK.due("fewer marks", -2, Check.script(x, "marks 1;"));
    CHECK.due("stopped", 0, x.stopped());
    CHECK.due("half of a diver", -2, Check.script(x, "all 1;give;all 2;half first;"));
    CHECK.due("stopped", 3, x.stopped());
    CHECK.due("as it was", -1, x.points(0, 1));
    CHECK.due("given times two", -2, Check.script(x, "all 1;give times 2;"));
    CHECK.due("stopped", 1, x.stopped());
    CHECK.due("the last act", -2, Check.script(x, "cap 1;".repeat(59) + "give;"));
    CHECK.due("stopped", 59, x.stopped());
    CHECK.due("with a fault", -1, Check.script(x, "all 21;"));
    CHECK.due("none then", -1, x.stopped());
    CHECK.due("out twice", -2, Check.script(x, "out ann;out ann;"));
    CHECK.due("stopped", 1, x.stopped());
    CHECK.due("all are in", 2, x.look(9));
    CHECK.due("a meet leaves stopped", 10, Check.meet(x, MEET));
    CHECK.due("stopped", 1, x.stopped());
    CHECK.due("a good one", 1, Check.script(x, "balk;"));
    CHECK.due("none then", -1, x.stopped());
    CHECK.due("marks of one that failed", -2, Check.script(x, "fail;marks 1 2;"));
    CHECK.due("cap of one that failed", -2, Check.script(x, "fail;cap 2;"));
    CHECK.due("all of one that failed", -2, Check.script(x, "fail;all 2;"));
    CHECK.due("fail of one that failed", -2, Check.script(x, "fail times 2;"));
    CHECK.due("a balk more", 1, x.board(5));
    CHECK.due("a third balk", -2, Check.script(x, "balk;balk;"));
    CHECK.due("a balk as it was", 1, x.board(5));
    CHECK.due("look(7)", 1, x.look(7));
  }

  private static void naming() {
    DropTwo x = fresh();
    CHECK.due("a dive", 2, Check.named(x, 0, "re"));
    CHECK.due("an entrant", 1, Check.named(x, 1, "bob"));
    CHECK.due("blanks", 1, Check.named(x, 1, " \n bob \n"));
    CHECK.due("a dive as an entrant", -1, Check.named(x, 1, "re"));
    CHECK.due("an entrant as a dive", -1, Check.named(x, 0, "bob"));
    CHECK.due("another what", -1, Check.named(x, 2, "bob"));
    CHECK.due("the tape is empty", 0, x.look(10));
    CHECK.due("another what", -1, Check.named(x, -1, "fa"));
    CHECK.due("two names", -1, Check.named(x, 0, "fa ba"));
    CHECK.due("a name and a sign", -1, Check.named(x, 0, "fa;"));
    CHECK.due("a longer name", -1, Check.named(x, 0, "faa"));
    CHECK.due("a shorter name", -1, Check.named(x, 0, "f"));
    CHECK.due("a word", -1, Check.named(x, 0, "dive"));
    CHECK.due("none", -1, Check.named(x, 0, ""));
    CHECK.due("a capital", -1, Check.named(x, 0, "FA"));
    CHECK.due("a cut name", -1, Check.named(x, 0, "f a"));
    shortNames();
  }

  /** The least of all names is not taken for what is no name. */
  private static void shortNames() {
    DropTwo x = new DropTwo();
    Check.meet(x, "rounds 1 drop 0;judge land 1;dive a group 1 degree 20;diver b land 1;list b a;");
    CHECK.due("a dive", 0, Check.named(x, 0, "a"));
    CHECK.due("an entrant", 0, Check.named(x, 1, "b"));
    CHECK.due("none", -1, Check.named(x, 0, ""));
    CHECK.due("no name", -1, Check.named(x, 0, "7"));
    CHECK.due("a word", -1, Check.named(x, 0, "all"));
    CHECK.due("two names", -1, Check.named(x, 0, "a a"));
    CHECK.due("a name and a sign", -1, Check.named(x, 0, "a;"));
  }
}
