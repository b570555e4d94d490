/** Promises 7 to 9: ask, day, may. */
public final class TodayTest {
  private static final Check CHECK = new Check("TodayTest");

  public static void main(String[] args) {
    asking();
    whoMayBeAsked();
    newcomers();
    CHECK.end();
  }

  private static void today(AskAnotherFirst x, int asked, int time, int day) {
    CHECK.due("how many asked", x.count(2), asked);
    CHECK.due("time to-day", x.count(3), time);
    CHECK.due("the day", x.count(4), day);
  }

  private static void asking() {
    AskAnotherFirst x = CHECK.told("pnb10,0;pnb50,0;pno30,0;a01,5;a12,7;a02,9;");
    CHECK.due("ask(0)", x.ask(0), 50);
    today(x, 3, 24, 0);
    CHECK.due("ask(0) again", x.ask(0), -3);
    CHECK.due("ask(2), who was on the way", x.ask(2), -3);
    CHECK.due("ask(3)", x.ask(3), -1);
    CHECK.due("ask(-1)", x.ask(-1), -1);
    today(x, 3, 24, 0);
    CHECK.due("day()", x.day(), 1);
    today(x, 0, 0, 1);
    CHECK.due("ask(2)", x.ask(2), 30);
    today(x, 1, 0, 1);
    CHECK.due("ask(1), the other gone", x.ask(1), 50);
    today(x, 2, 0, 1);
    CHECK.due("ask(0), both gone", x.ask(0), 10);
    today(x, 3, 0, 1);
    CHECK.due("day()", x.day(), 2);
    CHECK.due("ask(1)", x.ask(1), 50);
    today(x, 2, 14, 2);
    CHECK.due("day()", x.day(), 3);
    CHECK.due("day()", x.day(), 4);
    CHECK.due("refusals", Check.refusals(x), 20002);
    AskAnotherFirst y = CHECK.told("pnb10,0;pnb50,0;pno30,0;pnm3,0;a01,5;a32,9;");
    CHECK.due("ask(0)", y.ask(0), 50);
    CHECK.due("ask(3)", y.ask(3), 30);
    today(y, 4, 28, 0);
  }

  private static void whoMayBeAsked() {
    AskAnotherFirst x = CHECK.told("pnb1,0;pnb1,4;pnb1,4;pnb1,0;pnb1,0;", "a01,5;b02,5;a03,5;a12,1;");
    CHECK.due("may(0)", x.may(0), 14);
    CHECK.due("may(1)", x.may(1), 4);
    CHECK.due("may(4)", x.may(4), 0);
    x.law(1);
    CHECK.due("may(0), kin", x.may(0), 14);
    CHECK.due("may(1), kin", x.may(1), 0);
    x.law(4);
    CHECK.due("may(0), back", x.may(0), 4);
    CHECK.due("may(2), back", x.may(2), 1);
    x.law(2);
    CHECK.due("may(0), stop", x.may(0), 14);
    x.law(0);
    CHECK.due("ask(3)", x.ask(3), 1);
    CHECK.due("may(0), one asked", x.may(0), 6);
    CHECK.due("may(3), asked", x.may(3), -3);
    CHECK.due("may(5)", x.may(5), -1);
    CHECK.due("may(-5)", x.may(-5), -1);
    // 1 asks 2, and he asks 0.
    CHECK.due("ask(1)", x.ask(1), 1);
    CHECK.due("may(4), nobody told", x.may(4), 0);
    CHECK.due("may(0), asked", x.may(0), -3);
    x.day();
    CHECK.due("told", Check.tell(x, "a40,9;a41,9;"), 2);
    x.law(1);
    CHECK.due("may(4), kin", x.may(4), 3);
    CHECK.due("ask(2)", x.ask(2), 1);
    CHECK.due("may(4), one of the kin of 1 asked", x.may(4), 0);
    CHECK.due("refusals", Check.refusals(x), 20002);
  }

  private static void newcomers() {
    AskAnotherFirst x = CHECK.told("pnb1,0;");
    x.ask(0);
    CHECK.due("told", Check.tell(x, "pnm8,0;b01,4;"), 2);
    today(x, 1, 0, 0);
    CHECK.due("may(1)", x.may(1), 0);
    CHECK.due("ask(1)", x.ask(1), 8);
    today(x, 2, 0, 0);
    CHECK.due("a fault", Check.tell(x, "l7;"), -2000);
    today(x, 2, 0, 0);
  }
}
