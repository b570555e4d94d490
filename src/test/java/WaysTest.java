/** Promises 12 to 17: ways, soonest, surest, longest, always, took. */
public final class WaysTest {
  private static final Check CHECK = new Check("WaysTest");

  public static void main(String[] args) {
    alwaysOfAnew();
    likeWays();
    unlikeWays();
    everybodyAsksEverybody();
    byLaw();
    askersDoNotCount();
    refusals();
    CHECK.end();
  }

  private static void alwaysOfAnew() {
    AskAnotherFirst x = CHECK.told("pnb1,0;pnb1,0;pnb1,0;a01,1;b12,1;");
    CHECK.due("always(0), the first call", x.always(0), 7);
    CHECK.due("always(1), another's", x.always(1), 6);
    CHECK.due("took(0, 2, 1), no such time", x.took(0, 2, 1), 0);
  }

  private static void likeWays() {
    // 0 1 3 and 0 2 3, both of 8 MINUTES and 20 hundredths.
    AskAnotherFirst x = CHECK.told("pnb10,0;pnb20,0;pnb20,0;pnb5,0;", "a01,3;a02,1;a13,1;a23,3;");
    CHECK.due("ways(0)", x.ways(0), 2);
    CHECK.due("soonest", Check.soonest(x, 0), 1013);
    CHECK.due("surest", Check.surest(x, 0), 1013);
    CHECK.due("longest", Check.longest(x, 0), 1013);
    CHECK.due("always(0)", x.always(0), 9);
    CHECK.due("took(0, 8, 0)", x.took(0, 8, 0), 2);
    CHECK.due("took(0, 8, 1)", x.took(0, 8, 1), 9);
    CHECK.due("took(0, 4, 0)", x.took(0, 4, 0), 0);
    CHECK.due("took(0, 4, 1)", x.took(0, 4, 1), 0);
    CHECK.due("ways(1)", x.ways(1), 1);
    CHECK.due("always(1)", x.always(1), 10);
    CHECK.due("ways(3)", x.ways(3), 1);
    CHECK.due("always(3)", x.always(3), 8);
    CHECK.due("soonest(3, -1)", x.soonest(3, -1), 0);
    CHECK.due("longest(3, -1)", x.longest(3, -1), 1);
    CHECK.due("surest(3, -1)", x.surest(3, -1), 5);
    CHECK.due("took(3, 0, 0)", x.took(3, 0, 0), 1);
    CHECK.due("took(3, 0, 1)", x.took(3, 0, 1), 8);
  }

  private static void unlikeWays() {
    // 0 1 (RIGHT 10, TIME 40), 0 2 (RIGHT 90, TIME 24), 0 3 (90, 20), 0 4 5 (70, 44), 0 4 6 (70, 60).
    AskAnotherFirst x = CHECK.told("pnm1,0;pnm10,0;pnm90,0;pnm90,0;pnm3,0;pnm70,0;pnm70,0;",
        "a01,20;a02,12;a03,10;a04,20;a45,2;a46,10;");
    CHECK.due("ways(0)", x.ways(0), 5);
    CHECK.due("soonest", Check.soonest(x, 0), 103);
    CHECK.due("soonest(0, -1)", x.soonest(0, -1), 20);
    CHECK.due("surest", Check.surest(x, 0), 103);
    CHECK.due("surest(0, -1)", x.surest(0, -1), 90);
    CHECK.due("longest", Check.longest(x, 0), 1046);
    CHECK.due("longest(0, -1)", x.longest(0, -1), 3);
    CHECK.due("always(0)", x.always(0), 1);
    CHECK.due("took(0, 40, 0)", x.took(0, 40, 0), 1);
    CHECK.due("took(0, 40, 1)", x.took(0, 40, 1), 3);
    // The soonest and the surest part.
    Check.tell(x, "a01,1;");
    CHECK.due("soonest", Check.soonest(x, 0), 101);
    CHECK.due("soonest(0, -1)", x.soonest(0, -1), 2);
    CHECK.due("surest", Check.surest(x, 0), 103);
    // 3 is gone.
    CHECK.due("ask(3)", x.ask(3), 90);
    CHECK.due("ways(0), 3 gone", x.ways(0), 4);
    CHECK.due("surest, 3 gone", Check.surest(x, 0), 102);
    CHECK.due("nobody else asked", x.count(2), 1);
    CHECK.due("longest, by its i", x.longest(0, 2), 6);
    CHECK.due("longest, behind its end", x.longest(0, 3), -9);
    CHECK.due("soonest, behind its end", x.soonest(0, 2), -9);
    CHECK.due("surest, behind its end", x.surest(0, Integer.MAX_VALUE), -9);
  }

  private static void everybodyAsksEverybody() {
    AskAnotherFirst x = CHECK.told("pnb1,0;pnb1,0;pnb1,0;pnb1,0;pnb1,0;pnb1,0;pnb1,0;pnb9,0;");
    for (int one = 0; one < 8; one++) {
      for (int other = one + 1; other < 8; other++) {
        Check.tell(x, "b" + one + other + ",1;");
      }
    }
    CHECK.due("minutes told", x.count(1), 56);
    CHECK.due("ways(0)", x.ways(0), 5040);
    CHECK.due("ways(7)", x.ways(7), 5040);
    CHECK.due("took(3, 14, 0)", x.took(3, 14, 0), 5040);
    CHECK.due("took(3, 14, 1)", x.took(3, 14, 1), 255);
    CHECK.due("soonest of 3", Check.soonest(x, 3), 130124567);
    x.law(2);
    CHECK.due("ways(0), stop", x.ways(0), 210);
    CHECK.due("always(0), stop", x.always(0), 1);
    CHECK.due("surest, stop", Check.surest(x, 0), 10127);
    x.law(3);
    CHECK.due("ways(0), early", x.ways(0), 5040);
    CHECK.due("longest, early", x.longest(0, -1), 7);
  }

  private static void byLaw() {
    AskAnotherFirst x = CHECK.told("pnb1,1;pnb1,2;pnb1,2;pnb1,1;pnb1,0;", "a01,1;b02,2;b12,3;a14,4;b24,5;b03,1;");
    CHECK.due("one: 0 1 2 4, 0 1 4 2, 0 2 1 4, 0 2 4, 0 3", x.ways(0), 5);
    CHECK.due("one, always", x.always(0), 1);
    x.law(1);
    CHECK.due("kin: 0 1 4, 0 2 4", x.ways(0), 2);
    CHECK.due("kin, always", x.always(0), 17);
    x.law(4);
    CHECK.due("back: 0 2 4", x.ways(0), 1);
    CHECK.due("back, always", x.always(0), 21);
    CHECK.due("back, soonest", x.soonest(0, -1), 14);
  }

  private static void askersDoNotCount() {
    AskAnotherFirst x = CHECK.told("pfb1,0;pnb1,0;pnb7,0;a01,1;a02,2;");
    CHECK.due("run", Check.run(x, 0), 101);
    CHECK.due("longest", Check.longest(x, 0), 102);
    CHECK.due("surest", Check.surest(x, 0), 102);
    CHECK.due("soonest", Check.soonest(x, 0), 101);
  }

  private static void refusals() {
    AskAnotherFirst x = CHECK.told("pnb1,0;pnb1,0;");
    x.ask(1);
    CHECK.due("ways(2)", x.ways(2), -1);
    CHECK.due("ways(1)", x.ways(1), -3);
    CHECK.due("soonest(2, -2)", x.soonest(2, -2), -1);
    CHECK.due("soonest(1, -2)", x.soonest(1, -2), -4);
    CHECK.due("soonest(1, -1)", x.soonest(1, -1), -3);
    CHECK.due("surest(-1, -2)", x.surest(-1, -2), -1);
    CHECK.due("surest(1, -2)", x.surest(1, -2), -4);
    CHECK.due("surest(1, 0)", x.surest(1, 0), -3);
    CHECK.due("longest(9, -2)", x.longest(9, -2), -1);
    CHECK.due("longest(1, least)", x.longest(1, Integer.MIN_VALUE), -4);
    CHECK.due("longest(1, -1)", x.longest(1, -1), -3);
    CHECK.due("always(2)", x.always(2), -1);
    CHECK.due("always(1)", x.always(1), -3);
    CHECK.due("took(2, -1, 2)", x.took(2, -1, 2), -1);
    CHECK.due("took(1, -1, 2)", x.took(1, -1, 2), -2);
    CHECK.due("took(1, -1, -1)", x.took(1, -1, -1), -2);
    CHECK.due("took(1, -1, 0)", x.took(1, -1, 0), -3);
    CHECK.due("took(0, -1, 1)", x.took(0, -1, 1), -4);
    CHECK.due("took(0, 0, 1)", x.took(0, 0, 1), 1);
    CHECK.due("refusals", Check.refusals(x), 4060206);
  }
}
