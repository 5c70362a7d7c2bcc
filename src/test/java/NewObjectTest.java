/** Promise 1: without a meet there are no judges, dives, entrants, laws, cuts, and nobody dives. */
public final class NewObjectTest {
  public static void main(String[] args) {
    Check check = new Check("promise 1");
    DropTwo x = new DropTwo();
    for (int what = 0; what <= 10; what++) {
      check.due("look(" + what + ")", 0, x.look(what));
    }
    check.due("look(11)", -1, x.look(11));
    check.due("look(-1)", -1, x.look(-1));
    check.due("dive", -1, x.dive(0, 0));
    check.due("entrant", -1, x.entrant(0, 0));
    check.due("judge", -1, x.judge(0, 0));
    check.due("list", -1, x.list(0, 1));
    check.due("form", -1, x.form(0, 1));
    check.due("cut", -1, x.cut(0, 0));
    check.due("law", -1, x.law(0, 0, 1));
    check.due("breaks", -1, x.breaks(0, 0));
    check.due("ways", -1, x.ways(0));
    check.due("way", -1, x.way(0, 0, 1));
    check.due("best", -1, x.best(0, 0));
    for (int what = -1; what <= 9; what++) {
      check.due("board(" + what + ")", -1, x.board(what));
    }
    check.due("marked", -1, x.marked(0));
    check.due("mark", -2, x.mark(0, 0));
    check.due("balk", -3, x.balk());
    check.due("cap", -3, x.cap(20));
    check.due("cap wrong", -2, x.cap(21));
    check.due("half", -3, x.half(0));
    check.due("half wrong", -2, x.half(2));
    check.due("fail", -3, x.fail());
    check.due("give", -3, x.give());
    check.due("out", -2, x.out(0));
    check.due("change", -2, x.change(0, 1, 0));
    check.due("undo", -3, x.undo());
    check.due("points", -1, x.points(0, 1));
    check.due("award", -1, x.award(0, 1, 0, 0));
    check.due("kept", -1, x.kept(0, 1));
    check.due("total", -1, x.total(0, 0));
    check.due("rank", -1, x.rank(0));
    check.due("at", -1, x.at(0));
    check.due("sheet(-1)", 0, x.sheet(-1));
    check.due("sheet(0)", -1, x.sheet(0));
    check.due("worth", -1, x.worth(0, 1, 0));
    check.due("needs", -1, x.needs(0, 1));
    check.due("swing", -1, x.swing(0, 1, 0));
    check.due("bribes", -1, x.bribes(0, 1, 1));
    check.due("bias", DropTwo.NOTHING, x.bias(0, 0));
    check.due("alike", -1, x.alike(0, 1));
    check.due("dropped", -1, x.dropped(0, 0));
    check.due("without", -1, x.without(0, 0));
    check.due("asDrop", -1, x.asDrop(0, 0));
    check.due("expected", -1, x.expected(0));
    check.due("goes", -1, x.goes(0));
    check.due("order", -1, x.order(0, 0));
    check.due("wins", -1, x.wins(1, 1, 0));
    check.due("keep", -3, x.keep(0));
    check.due("keep wrong", -2, x.keep(2));
    check.due("back", -3, x.back(1));
    check.due("back wrong", -2, x.back(-1));
    check.due("fault(0)", 0, x.fault(0));
    check.due("fault(1)", -1, x.fault(1));
    check.due("fault(2)", -1, x.fault(2));
    check.due("stopped", -1, x.stopped());
    check.due("named", -1, Check.named(x, 0, "fa"));
    check.due("a script without acts", 0, Check.script(x, ""));
    check.due("a script that can't be done", -2, Check.script(x, "give;"));
    check.due("stopped then", 0, x.stopped());
    check.due("constants", -1, DropTwo.NONE);
    check.due("constants", Integer.MIN_VALUE, DropTwo.NOTHING);
    check.finish();
  }
}
