/** Promises 10 and 11: run and runOf, by every KIND of ASKER, KIND of SAYER and LAW. */
public final class RunTest {
  private static final Check CHECK = new Check("RunTest");

  public static void main(String[] args) {
    askers();
    likeOnes();
    sayers();
    doubtAndWrong();
    laws();
    kinOfThoseAsked();
    threeOfAKin();
    shortUnderStop();
    nothingChanges();
    refusals();
    CHECK.end();
  }

  /** 1 is the first, 2 the nearest, 3 the wisest, 4 has nobody behind him and 5 most. */
  private static AskAnotherFirst hub(String asker) {
    return CHECK.told("p" + asker + "b0,0;pnb10,0;pnb20,0;pnb90,0;pnb90,0;pnb50,0;pnb0,0;pnb0,0;",
        "a01,20;a02,5;a03,9;a04,5;a05,30;a16,1;a26,1;a36,1;a56,2;a57,1;");
  }

  private static void askers() {
    CHECK.due("near", Check.run(hub("n"), 0), 1026);
    CHECK.due("wise", Check.run(hub("w"), 0), 1036);
    CHECK.due("short", Check.run(hub("s"), 0), 104);
    CHECK.due("long", Check.run(hub("l"), 0), 1057);
    CHECK.due("first", Check.run(hub("f"), 0), 1016);
    CHECK.due("time of near", hub("n").run(0, 0), 12);
    CHECK.due("time of long", hub("l").run(0, 0), 62);
    CHECK.due("right of wise", hub("w").run(0, 1), 90);
    CHECK.due("right of first", hub("f").run(0, 1), 10);
  }

  private static void likeOnes() {
    // All three have one behind them: then by MINUTES, and of these the least.
    String three = "b0,0;pnb0,0;pnb0,0;pnb0,0;pnb0,0;";
    String ways = "a01,9;a02,8;a03,8;a14,1;a24,1;a34,1;";
    CHECK.due("short", Check.run(CHECK.told("ps" + three, ways), 0), 1024);
    CHECK.due("long", Check.run(CHECK.told("pl" + three, ways), 0), 1024);
    CHECK.due("near", Check.run(CHECK.told("pn" + three, ways), 0), 1024);
    CHECK.due("wise", Check.run(CHECK.told("pw" + three, ways), 0), 1014);
    // Room behind weighs more than sixty MINUTES do.
    String far = "a01,1;a02,60;a13,1;";
    CHECK.due("short, far", Check.run(CHECK.told("ps" + three, far), 0), 102);
    String farther = "a01,1;a02,60;a23,1;";
    CHECK.due("long, far", Check.run(CHECK.told("pl" + three, farther), 0), 1023);
  }

  /** RIGHT of 0 of this kind, who knows 40 and hears what 1 says, who knows 71. */
  private static int right(String sayer, String last) {
    return CHECK.told("pn" + sayer + "40,0;pn" + last + "71,0;a01,1;").run(0, 1);
  }

  private static void sayers() {
    CHECK.due("better hears more", right("b", "b"), 71);
    CHECK.due("better hears less", right("b", "x"), 40);
    CHECK.due("own", right("o", "b"), 40);
    CHECK.due("meek hears more", right("m", "b"), 71);
    CHECK.due("meek hears less", right("m", "x"), 29);
    CHECK.due("wrong", right("x", "b"), 29);
    CHECK.due("doubt", right("d", "b"), 55);
    CHECK.due("the last is own", right("m", "o"), 71);
    CHECK.due("the last is meek", right("m", "m"), 71);
    CHECK.due("the last is wrong", right("m", "x"), 29);
    CHECK.due("the last doubts", right("m", "d"), 71);
  }

  private static void doubtAndWrong() {
    AskAnotherFirst x = CHECK.told("pnx7,0;pnd0,0;pnx0,0;pnm99,0;pno100,0;a01,1;a12,1;a23,1;a34,1;");
    CHECK.due("100, 100, 0, 0, 100", x.run(0, 1), 100);
    CHECK.due("100, 100, 0, 0", x.run(1, 1), 0);
    CHECK.due("100, 100, 0", x.run(2, 1), 0);
    CHECK.due("100, 100", x.run(3, 1), 100);
    CHECK.due("how many", x.run(0, 2), 5);
  }

  private static AskAnotherFirst chain() {
    return CHECK.told("pnb1,0;pnb2,5;pnb3,0;pnb4,5;pnb5,6;pnb6,0;pnb7,0;pnb8,6;",
        "a01,1;a12,1;a23,1;a34,1;a45,1;a56,1;a67,1;");
  }

  private static void laws() {
    AskAnotherFirst x = chain();
    CHECK.due("one", Check.run(x, 0), 101234567);
    CHECK.due("one, time", x.run(0, 0), 14);
    CHECK.due("one, the last", x.runOf(0, 7), 7);
    CHECK.due("one, behind the last", x.runOf(0, 8), -9);
    x.law(1);
    CHECK.due("kin", Check.run(x, 0), 1012);
    CHECK.due("kin from 1", Check.run(x, 1), 112);
    CHECK.due("kin from 2", Check.run(x, 2), 123456);
    x.law(2);
    CHECK.due("stop", Check.run(x, 0), 10123);
    CHECK.due("stop from 6", Check.run(x, 6), 167);
    x.law(3);
    CHECK.due("early", Check.run(x, 0), 10123456);
    CHECK.due("early from 1", Check.run(x, 1), 11234567);
    x.law(4);
    CHECK.due("back", Check.run(x, 0), 10);
    Check.tell(x, "a10,9;a21,9;a32,9;");
    CHECK.due("back", Check.run(x, 0), 1012);
    CHECK.due("back", Check.run(x, 3), 132);
    // Kin 0 is no kin; 0 hears 1 only, since the way on is not back from 5.
    CHECK.due("back from 6", Check.run(x, 6), 16);
  }

  private static void kinOfThoseAsked() {
    AskAnotherFirst x = chain();
    x.law(2);
    CHECK.due("ask(4)", x.ask(4), 8);
    x.law(1);
    CHECK.due("kin of 1 not asked", Check.run(x, 0), 1012);
    x.day();
    CHECK.due("one of kin 5", x.ask(3), 7);
    CHECK.due("kin of 1 asked", Check.run(x, 0), 10);
    CHECK.due("who is asked first may be of it", Check.run(x, 1), 112);
    x.law(0);
    CHECK.due("one", Check.run(x, 0), 1012);
  }

  private static void threeOfAKin() {
    String three = "pnb1,7;pnb2,7;pnb3,7;pnb4,0;";
    for (int asked = 0; asked < 3; asked++) {
      AskAnotherFirst x = CHECK.told(three, "a30,1;a31,1;a32,1;l1;");
      CHECK.due("may, nobody asked", x.may(3), 7);
      x.ask(asked);
      CHECK.due("may, " + asked + " asked", x.may(3), 0);
    }
  }

  private static void shortUnderStop() {
    // 2 has three behind him, but when it is his the question has come to three others.
    AskAnotherFirst x = CHECK.told("pnb0,0;pnb0,0;psb0,0;pnb0,0;pnb0,0;pnb0,0;",
        "a01,1;a12,1;a23,5;a24,3;a35,1;");
    CHECK.due("one: none behind 4", Check.run(x, 0), 10124);
    Check.tell(x, "a45,1;a53,1;");
    CHECK.due("one: like, then near", Check.run(x, 0), 1012453);
    Check.tell(x, "a43,1;");
    CHECK.due("one: fewest behind 3", Check.run(x, 0), 101235);
    x.law(2);
    CHECK.due("stop: none behind either", Check.run(x, 0), 10124);
  }

  private static void nothingChanges() {
    AskAnotherFirst x = hub("l");
    CHECK.due("runOf, the first call", x.runOf(0, 1), 5);
    CHECK.due("run", x.run(0, 2), 3);
    CHECK.due("runOf of another", x.runOf(1, 1), 6);
    CHECK.due("nobody asked", x.count(2), 0);
    CHECK.due("no time", x.count(3), 0);
    CHECK.due("ask(5)", x.ask(5), 50);
    CHECK.due("long, 5 and 7 gone", Check.run(x, 0), 1026);
    CHECK.due("two asked", x.count(2), 2);
  }

  private static void refusals() {
    AskAnotherFirst x = hub("n");
    CHECK.due("run(8, 9)", x.run(8, 9), -1);
    CHECK.due("run(-1, 0)", x.run(-1, 0), -1);
    CHECK.due("run(0, 3)", x.run(0, 3), -2);
    CHECK.due("run(0, -1)", x.run(0, -1), -2);
    CHECK.due("runOf(8, -1)", x.runOf(8, -1), -1);
    CHECK.due("runOf(0, -1)", x.runOf(0, -1), -4);
    CHECK.due("runOf(0, 3)", x.runOf(0, 3), -9);
    CHECK.due("runOf(0, greatest)", x.runOf(0, Integer.MAX_VALUE), -9);
    x.ask(7);
    CHECK.due("run(7, 3)", x.run(7, 3), -2);
    CHECK.due("run(7, 2)", x.run(7, 2), -3);
    CHECK.due("runOf(7, -1)", x.runOf(7, -1), -4);
    CHECK.due("runOf(7, 0)", x.runOf(7, 0), -3);
    CHECK.due("refusals", Check.refusals(x), 2020303);
  }
}
