/** Promises 24 and 25: row, judge. */
public final class RowTest {
  private static final Check CHECK = new Check("RowTest");

  public static void main(String[] args) {
    rows();
    judged();
    judgedByLaw();
    CHECK.end();
  }

  private static void rows() {
    AskAnotherFirst x = new AskAnotherFirst();
    CHECK.due("row(-1)", x.row(-1), -4);
    CHECK.due("row(10)", x.row(10), -6);
    CHECK.due("row(0)", x.row(0), 1);
    CHECK.due("row(9)", x.row(9), 2);
    for (int many = 3; many <= 8; many++) {
      CHECK.due("row(0)", x.row(0), many);
    }
    CHECK.due("row(0), full", x.row(0), -6);
    CHECK.due("row(-1), full", x.row(-1), -4);
    CHECK.due("count(6)", x.count(6), 8);
    CHECK.due("judge()", x.judge(), 0);
    CHECK.due("count(6)", x.count(6), 0);
    CHECK.due("judge() of none", x.judge(), -3);
    CHECK.due("row(3)", x.row(3), 1);
    CHECK.due("refusals", Check.refusals(x), 20002010000L);
  }

  private static int judge(AskAnotherFirst x, int... row) {
    for (int person : row) {
      x.row(person);
    }
    int answer = x.judge();
    CHECK.due("the row has none then", x.count(6), 0);
    return answer;
  }

  private static void judged() {
    AskAnotherFirst x = CHECK.told("pnb1,0;pnb1,0;pnb1,0;pnb1,0;", "a01,1;a02,2;a12,3;a23,4;a30,5;");
    CHECK.due("0 1 2 3", judge(x, 0, 1, 2, 3), -9);
    CHECK.due("0 2 3", judge(x, 0, 2, 3), -9);
    CHECK.due("0 1 2 could go on", judge(x, 0, 1, 2), 3);
    CHECK.due("0 could go on", judge(x, 0), 1);
    CHECK.due("0 3: he may not", judge(x, 0, 3), 1);
    CHECK.due("0 1 0: he holds it", judge(x, 0, 1, 0), 2);
    CHECK.due("0 0", judge(x, 0, 0), 1);
    CHECK.due("0 1 2 4: none", judge(x, 0, 1, 2, 4), 3);
    CHECK.due("9: none", judge(x, 9), 0);
    CHECK.due("the first of several", judge(x, 0, 3, 9, 1), 1);
    CHECK.due("0 1 2 3 1: behind its end", judge(x, 0, 1, 2, 3, 1), 4);
    CHECK.due("nobody asked", x.count(2), 0);
    x.ask(3);
    CHECK.due("0 and 1 and 2 and 3 asked", x.count(2), 4);
    CHECK.due("1: asked", judge(x, 1, 2), 0);
    x.day();
    x.law(2);
    x.law(0);
    Check.tell(x, "pnb1,0;a43,1;");
    CHECK.due("ask(4)", x.ask(4), 1);
    x.day();
    Check.tell(x, "pnb1,0;");
    x.ask(5);
    CHECK.due("5: asked", judge(x, 0, 1, 5), 2);
    CHECK.due("5: asked, the first", judge(x, 5, 1), 0);
    CHECK.due("all is well still", judge(x, 4, 3, 0, 1, 2), -9);
  }

  private static void judgedByLaw() {
    AskAnotherFirst x = CHECK.told("pnb1,2;pnb1,0;pnb1,2;pnb1,0;pnb1,0;", "a01,1;a12,1;a13,1;a23,1;b34,1;");
    CHECK.due("one: 0 1 2 3 4", judge(x, 0, 1, 2, 3, 4), -9);
    CHECK.due("one: 0 1 2 3", judge(x, 0, 1, 2, 3), 4);
    x.law(2);
    CHECK.due("stop: 0 1 2 3", judge(x, 0, 1, 2, 3), -9);
    CHECK.due("stop: 0 1 2 3 4", judge(x, 0, 1, 2, 3, 4), 4);
    x.law(1);
    CHECK.due("kin: 0 1 2", judge(x, 0, 1, 2), 2);
    CHECK.due("kin: 0 1 3 4", judge(x, 0, 1, 3, 4), -9);
    x.law(4);
    CHECK.due("back: 0", judge(x, 0), -9);
    CHECK.due("back: 0 1", judge(x, 0, 1), 1);
    CHECK.due("back: 3", judge(x, 3), 1);
    CHECK.due("back: 4 3", judge(x, 4, 3), -9);
  }
}
