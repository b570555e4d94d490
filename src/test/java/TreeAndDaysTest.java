/** Promises 22 and 23: tree, days. */
public final class TreeAndDaysTest {
  private static final Check CHECK = new Check("TreeAndDaysTest");

  public static void main(String[] args) {
    trees();
    treesByLaw();
    treesOfKinds();
    treeRefusals();
    days();
    draws();
    daysByLaw();
    dayRefusals();
    CHECK.end();
  }

  private static void tree(AskAnotherFirst x, int person, int many, int time, int right) {
    CHECK.due("tree(" + person + ", 0)", x.tree(person, 0), many);
    CHECK.due("tree(" + person + ", 1)", x.tree(person, 1), time);
    CHECK.due("tree(" + person + ", 2)", x.tree(person, 2), right);
  }

  private static AskAnotherFirst grove() {
    return CHECK.told("pnd10,0;pnd20,0;pnb61,4;pnb100,0;pnx30,4;", "a01,1;a02,2;a03,3;a14,4;");
  }

  private static void trees() {
    AskAnotherFirst x = grove();
    // 0 to 1, he to 4, who says 70: 1 says 45; then 0 to 2, who says 61; 3 comes too late.
    tree(x, 0, 4, 14, 35);
    tree(x, 1, 2, 8, 45);
    tree(x, 4, 1, 0, 70);
    Check.tell(x, "a23,5;");
    tree(x, 0, 5, 24, 55);
    CHECK.due("nobody asked", x.count(2), 0);
    CHECK.due("no time", x.count(3), 0);
    // What 1 takes is not there for 0 any more.
    Check.tell(x, "a12,9;a13,9;");
    tree(x, 0, 5, 2 * (1 + 4 + 9 + 5), 35);
    CHECK.due("ask(4)", x.ask(4), 70);
    tree(x, 0, 4, 2 * (1 + 9 + 5), 35);
  }

  private static void treesByLaw() {
    AskAnotherFirst x = grove();
    Check.tell(x, "a23,5;l2;");
    tree(x, 0, 4, 14, 35);
    x.law(3);
    tree(x, 0, 5, 24, 55);
    // 2 is of the kin of 4, who has it: 0 passes it on to 3 instead.
    x.law(1);
    tree(x, 0, 4, 16, 55);
    x.law(4);
    tree(x, 0, 1, 0, 10);
    Check.tell(x, "b02,2;");
    tree(x, 0, 2, 4, 35);
    x.law(1);
    // 4 has been asked, so 2 of his kin may not.
    x.ask(4);
    tree(x, 0, 3, 8, 55);
  }

  private static void treesOfKinds() {
    AskAnotherFirst x = CHECK.told("pwo10,0;plm20,0;pnm30,0;psx40,0;", "b01,1;b02,2;b03,3;b12,4;b13,5;b23,6;");
    // 0 to 3; he short: 1 and 2 alike, then by MINUTES 1; he long to 2.
    tree(x, 0, 4, 24, 10);
    // 1 to 0, he to 3, he to 2: 30; 3 says 70; 0 says 10, 1 hears 10.
    tree(x, 1, 4, 2 * (1 + 3 + 6), 10);
    // 3 to 0 (like, then near), he to 2, he to 1.
    tree(x, 3, 4, 2 * (3 + 2 + 4), 90);
    AskAnotherFirst y = CHECK.told("pnx10,0;pnm60,0;pnm20,0;pnm5,0;a01,1;a02,2;a03,3;");
    CHECK.due("the greater of 60 and 20 is heard", y.tree(0, 2), 40);
    CHECK.due("two at most", y.tree(0, 0), 3);
  }

  private static void treeRefusals() {
    AskAnotherFirst x = CHECK.told("pnb1,0;pnb1,0;");
    x.ask(1);
    CHECK.due("tree(2, 3)", x.tree(2, 3), -1);
    CHECK.due("tree(-1, 0)", x.tree(-1, 0), -1);
    CHECK.due("tree(1, 3)", x.tree(1, 3), -2);
    CHECK.due("tree(0, -1)", x.tree(0, -1), -2);
    CHECK.due("tree(1, 0)", x.tree(1, 0), -3);
    CHECK.due("refusals", Check.refusals(x), 10202);
  }

  private static void days() {
    AskAnotherFirst x = CHECK.told("pnb7,0;");
    CHECK.due("one day", x.days(1, 0), 7);
    CHECK.due("thirty days", x.days(30, -123456789), 210);
    x.ask(0);
    CHECK.due("nobody has been asked on each", x.days(2, 9), 14);
    CHECK.due("to-day he has", x.person(0, 4), 1);
    CHECK.due("the day", x.count(4), 0);
    CHECK.due("the time", x.count(3), 0);
  }

  private static void draws() {
    AskAnotherFirst two = CHECK.told("pnb1,0;pnb100,0;");
    CHECK.due("1 0 1 1 and so on", two.days(30, 5), 1515);
    CHECK.due("1 1 0 1", two.days(4, Integer.MIN_VALUE), 301);
    AskAnotherFirst three = CHECK.told("pnb1,0;pnb10,0;pnb100,0;");
    CHECK.due("1 0 2 2 0 1 0 1 of -7", three.days(8, -7), 233);
    CHECK.due("1 2 2 0 1 2 1 1 of greatest", three.days(8, Integer.MAX_VALUE), 341);
    CHECK.due("2 0 0 2 1 2 2 2 of 0", three.days(8, 0), 512);
    CHECK.due("1 1 1 1 2 1 0 1 of 5", three.days(8, 5), 161);
  }

  private static void daysByLaw() {
    // 1 0 1 1 of seed 5: from 1 the question goes on to 0, if the law allows it.
    AskAnotherFirst x = CHECK.told("pnb90,3;pnb10,3;a10,1;");
    CHECK.due("one", x.days(4, 5), 360);
    x.law(1);
    CHECK.due("kin", x.days(4, 5), 120);
    x.law(0);
    x.ask(0);
    CHECK.due("asked only to-day", x.days(4, 5), 360);
  }

  private static void dayRefusals() {
    AskAnotherFirst x = new AskAnotherFirst();
    CHECK.due("days(0, 0)", x.days(0, 0), -4);
    CHECK.due("days(31, 0)", x.days(31, 0), -6);
    CHECK.due("days(30, 0)", x.days(30, 0), -3);
    CHECK.due("days(least, 0)", x.days(Integer.MIN_VALUE, 0), -4);
    CHECK.due("refusals", Check.refusals(x), 10002010000L);
  }
}
