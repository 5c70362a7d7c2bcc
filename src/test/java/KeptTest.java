/** Promises 52, 53: what is kept comes back. */
public final class KeptTest {
  private static final Check CHECK = new Check("kept");
  private static final String MEET =
      "rounds 2 drop 0;judge land 1;dive fa group 1 degree 20;dive ba group 2 degree 30;"
          + "dive re group 3 degree 25;diver ann land 1;diver bob land 2;list ann fa ba;list bob ba re;"
          + "cut 1 most 1 anew;";

  public static void main(String[] args) {
    DropTwo x = new DropTwo();
    CHECK.due("no meet", -3, x.keep(0));
    CHECK.due("no meet, another k", -2, x.keep(2));
    CHECK.due("another k", -2, x.keep(-1));
    CHECK.due("nothing is kept", -3, x.back(0));
    CHECK.due("another k", -2, x.back(2));
    CHECK.due("another k", -2, x.back(-1));
    Check.meet(x, MEET);
    CHECK.due("nothing is kept", -3, x.back(0));
    x.mark(0, 5);
    x.cap(9);
    CHECK.due("change", 1, x.change(0, 2, 2));
    CHECK.due("keep", 0, x.keep(0));
    CHECK.due("the other one is not kept", -3, x.back(1));
    x.give();
    CHECK.due("keep", 1, x.keep(1));
    Check.script(x, "all 20;give;");
    CHECK.due("ann is cut", 1, x.entrant(0, 2));
    CHECK.due("bob begins anew", 0, x.total(1, 0));
    Check.script(x, "balk;give;");
    CHECK.due("stopped", 1, x.stopped());
    CHECK.due("a fault", -1, Check.script(x, "zz"));
    x.feed(0, 0, 0, 0, 0);
    CHECK.due("back", 0, x.back(0));
    CHECK.due("marked", 5, x.marked(0));
    CHECK.due("cap", 9, x.board(6));
    CHECK.due("the list", 2, x.list(0, 2));
    CHECK.due("ann is in", 0, x.entrant(0, 2));
    CHECK.due("points", -1, x.points(0, 1));
    CHECK.due("totals", 0, x.total(1, 1));
    CHECK.due("nothing can be undone", -3, x.undo());
    CHECK.due("look(7)", 0, x.look(7));
    CHECK.due("the tape stays", 20, x.look(10));
    CHECK.due("the fault stays", 1, x.fault(0));
    CHECK.due("the place stays", 0, x.fault(1));
    CHECK.due("stopped stays", -1, x.stopped());
    CHECK.due("back", 1, x.back(1));
    CHECK.due("bob is at the board", 1, x.board(0));
    CHECK.due("points", 1500, x.points(0, 1));
    CHECK.due("what is kept stays kept", 0, x.back(0));
    x.balk();
    CHECK.due("kept again", 0, x.keep(0));
    x.undo();
    CHECK.due("no balk", 0, x.board(5));
    CHECK.due("back", 0, x.back(0));
    CHECK.due("a balk", 1, x.board(5));
    CHECK.due("a wrong meet leaves it", -1, x.meet());
    CHECK.due("back", 1, x.back(1));
    Check.meet(x, MEET);
    CHECK.due("a new meet does not", -3, x.back(0));
    CHECK.due("a new meet does not", -3, x.back(1));
    Check.script(x, "all 1;give;all 2;give;all 1;give;");
    CHECK.due("over", 1, x.look(8));
    CHECK.due("keep", 3, x.keep(1));
    x.undo();
    CHECK.due("back", 3, x.back(1));
    CHECK.due("over", 1, x.look(8));
    CHECK.finish();
  }
}
