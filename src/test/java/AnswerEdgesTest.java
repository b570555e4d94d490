/**
 * The boundaries that the document names for what is thought of in mind (WAYS to DAYS, promises 12 to 23): a
 * test for each sentence, the sentence ahead of it.
 */
public final class AnswerEdgesTest {
  private static final Check CHECK = new Check("AnswerEdgesTest");
  private static final int LEAST = Integer.MIN_VALUE;
  private static final int MOST = Integer.MAX_VALUE;
  private static final String FOUR = "pnb1,0;pnb1,0;pnb1,0;pnb1,0;";

  public static void main(String[] args) {
    waysOfAll();
    waysGoToTheirEnd();
    waysByLaw();
    waysWithoutWhoWasAsked();
    soonest();
    soonestEnds();
    surest();
    surestEnds();
    longest();
    longestEnds();
    always();
    took();
    tookOfSeveral();
    foeIsAnOther();
    foeIsLessThanNow();
    foeLeastOfSeveral();
    switchOfNothing();
    switchByOneHundredth();
    switchLeastOfSeveral();
    switchAsThingsStand();
    edge();
    edgeToNobodyAtAll();
    edgeBelowNothing();
    two();
    twoSecondAddsNothing();
    twoWithoutWhoWasAsked();
    twoOrders();
    twoByLaw();
    treeOfOne();
    treeToTwoAtMost();
    treeBehindAll();
    treeOfAll();
    treeHearsTheGreater();
    treeByLaw();
    daysTaken();
    daySeedsWrap();
    dayDraws();
    onEachDayNobodyAsked();
    nothingComesOfIt();
    CHECK.end();
  }

  private static AskAnotherFirst chain(int persons, int minutes) {
    AskAnotherFirst x = CHECK.told("pnb1,0;".repeat(persons));
    for (int p = 0; p + 1 < persons; p++) {
      CHECK.due("chain", Check.tell(x, "a" + p + (p + 1) + "," + minutes + ";"), 1);
    }
    return x;
  }

  private static AskAnotherFirst everybody(int persons) {
    AskAnotherFirst x = CHECK.told("pnb1,0;".repeat(persons));
    for (int one = 0; one < persons; one++) {
      for (int other = one + 1; other < persons; other++) {
        CHECK.due("everybody", Check.tell(x, "b" + one + other + ",1;"), 1);
      }
    }
    return x;
  }

  // "WAYS from a PERSON: all WAYS by LAW on which each passes it on to any one to whom he MAY, to its end"

  private static void waysOfAll() {
    int[] due = {1, 1, 2, 6, 24, 120, 720, 5040};
    for (int persons = 1; persons <= 8; persons++) {
      AskAnotherFirst x = everybody(persons);
      CHECK.due("ways among " + persons, x.ways(0), due[persons - 1]);
      CHECK.due("ways of the last of " + persons, x.ways(persons - 1), due[persons - 1]);
    }
  }

  private static void waysGoToTheirEnd() {
    CHECK.due("in a row", chain(8, 1).ways(0), 1);
    CHECK.due("from the last", chain(8, 1).ways(7), 1);
    CHECK.due("nobody may be asked", CHECK.told(FOUR).ways(0), 1);
    CHECK.due("three ends", CHECK.told(FOUR, "a01,1;a02,1;a03,1;").ways(0), 3);
    CHECK.due("0 1 2 and 0 2 and 0 2 1", CHECK.told(FOUR, "a01,1;a02,1;a12,1;").ways(0), 2);
  }

  private static void waysByLaw() {
    AskAnotherFirst x = everybody(8);
    int[] due = {5040, 5040, 210, 5040, 5040};
    for (int law = 0; law <= 4; law++) {
      x.law(law);
      CHECK.due("LAW " + law, x.ways(0), due[law]);
    }
    AskAnotherFirst y = CHECK.told("pnb1,1;pnb1,2;pnb1,2;pnb1,1;", "b01,1;b02,1;b03,1;b12,1;b13,1;l1;");
    CHECK.due("KIN: 0 1 and 0 2", y.ways(0), 2);
  }

  private static void waysWithoutWhoWasAsked() {
    AskAnotherFirst x = CHECK.told(FOUR, "a01,1;a02,1;a03,1;");
    int[] due = {2, 1, 1};
    for (int p = 1; p <= 3; p++) {
      x.ask(p);
      CHECK.due("ways without " + p + " of 3", x.ways(0), due[p - 1]);
    }
    CHECK.due("the one that is left", x.longest(0, -1), 1);
  }

  // "SOONEST: the least TIME, of several the first (by PERSONS one after the other)"

  private static void soonest() {
    CHECK.due("by one MINUTE", Check.soonest(CHECK.told(FOUR, "a01,2;a02,1;"), 0), 102);
    CHECK.due("the first", Check.soonest(CHECK.told(FOUR, "a02,1;a01,1;"), 0), 101);
    CHECK.due("the first, longer", Check.soonest(CHECK.told(FOUR, "a01,1;a13,1;a02,2;"), 0), 1013);
    CHECK.due("the first, shorter", Check.soonest(CHECK.told(FOUR, "a01,2;a02,1;a23,1;"), 0), 101);
    CHECK.due("the first, later on", Check.soonest(CHECK.told(FOUR, "a01,1;a13,5;a12,5;"), 0), 1012);
    CHECK.due("not the shortest", Check.soonest(CHECK.told(FOUR, "a01,60;a02,1;a23,1;"), 0), 1023);
  }

  // "SOONEST: TIME (i -1), its i-th PERSON; -9 none such. -1; -4"

  private static void soonestEnds() {
    AskAnotherFirst x = chain(8, 60);
    CHECK.due("greatest TIME", x.soonest(0, -1), 840);
    CHECK.due("least TIME", x.soonest(7, -1), 0);
    CHECK.due("least TIME of two", x.soonest(6, -1), 120);
    for (int i = 0; i <= 7; i++) {
      CHECK.due("soonest(0, " + i + ")", x.soonest(0, i), i);
    }
    CHECK.due("soonest(0, 8)", x.soonest(0, 8), -9);
    CHECK.due("soonest(7, 1)", x.soonest(7, 1), -9);
    CHECK.due("soonest(0, greatest)", x.soonest(0, MOST), -9);
    CHECK.due("soonest(0, -2)", x.soonest(0, -2), -4);
    CHECK.due("soonest(0, least)", x.soonest(0, LEAST), -4);
  }

  // "SUREST: the most RIGHT, then the least TIME, then the first"

  private static void surest() {
    String most = "pnm1,0;pno50,0;pno51,0;";
    CHECK.due("by one hundredth", Check.surest(CHECK.told(most, "a01,1;a02,60;"), 0), 102);
    String like = "pnm1,0;pno50,0;pno50,0;pno50,0;";
    CHECK.due("by one MINUTE", Check.surest(CHECK.told(like, "a01,2;a02,1;"), 0), 102);
    CHECK.due("the first", Check.surest(CHECK.told(like, "a02,1;a01,1;"), 0), 101);
    CHECK.due("the first, longer", Check.surest(CHECK.told(like, "a01,1;a13,1;a02,2;"), 0), 1013);
    CHECK.due("the first, later on", Check.surest(CHECK.told(like, "a01,1;a13,1;a12,1;"), 0), 1012);
    CHECK.due("more RIGHT, more TIME", Check.surest(CHECK.told(most, "a01,1;a12,60;a02,60;"), 0), 102);
  }

  // "SUREST: RIGHT (i -1), its i-th PERSON; -9. -1; -4"

  private static void surestEnds() {
    CHECK.due("least RIGHT", CHECK.told("pnb0,0;").surest(0, -1), 0);
    CHECK.due("greatest RIGHT", CHECK.told("pnb100,0;").surest(0, -1), 100);
    CHECK.due("RIGHT 0 of each way", CHECK.told("pno0,0;pnb9,0;pnb9,0;a01,1;a02,1;").surest(0, -1), 0);
    AskAnotherFirst x = chain(8, 60);
    for (int i = 0; i <= 7; i++) {
      CHECK.due("surest(0, " + i + ")", x.surest(0, i), i);
    }
    CHECK.due("surest(0, 8)", x.surest(0, 8), -9);
    CHECK.due("surest(7, 1)", x.surest(7, 1), -9);
    CHECK.due("surest(0, greatest)", x.surest(0, MOST), -9);
    CHECK.due("surest(0, -2)", x.surest(0, -2), -4);
    CHECK.due("surest(0, least)", x.surest(0, LEAST), -4);
  }

  // "LONGEST: of most PERSONS, then most TIME, then the first"

  private static void longest() {
    CHECK.due("of most PERSONS", Check.longest(CHECK.told(FOUR, "a01,60;a02,1;a23,1;"), 0), 1023);
    CHECK.due("by one MINUTE", Check.longest(CHECK.told(FOUR, "a01,1;a02,2;"), 0), 102);
    CHECK.due("the first", Check.longest(CHECK.told(FOUR, "a02,1;a01,1;"), 0), 101);
    CHECK.due("the first, later on", Check.longest(CHECK.told(FOUR, "a01,1;a13,5;a12,5;"), 0), 1012);
    CHECK.due("TIME, later on", Check.longest(CHECK.told(FOUR, "a01,1;a13,6;a12,5;"), 0), 1013);
  }

  // "LONGEST: how many (i -1), its i-th PERSON; -9. -1; -4"

  private static void longestEnds() {
    AskAnotherFirst x = chain(8, 60);
    CHECK.due("of eight", x.longest(0, -1), 8);
    CHECK.due("of one", x.longest(7, -1), 1);
    for (int i = 0; i <= 7; i++) {
      CHECK.due("longest(0, " + i + ")", x.longest(0, i), i);
    }
    CHECK.due("longest(0, 8)", x.longest(0, 8), -9);
    CHECK.due("longest(7, 1)", x.longest(7, 1), -9);
    CHECK.due("longest(0, greatest)", x.longest(0, MOST), -9);
    CHECK.due("longest(0, -2)", x.longest(0, -2), -4);
    CHECK.due("longest(0, least)", x.longest(0, LEAST), -4);
  }

  // "ALWAYS: PERSONS (bits) on all WAYS."

  private static void always() {
    for (int p = 0; p < 8; p++) {
      CHECK.due("from " + p + " on", chain(8, 1).always(p), 256 - (1 << p));
    }
    CHECK.due("only himself", CHECK.told(FOUR, "a01,1;a02,1;a03,1;").always(0), 1);
    CHECK.due("where they come together", CHECK.told(FOUR, "a01,1;a02,1;a13,1;a23,1;").always(0), 9);
    CHECK.due("on all but one", CHECK.told(FOUR, "a01,1;a02,1;a03,1;a13,1;").always(0), 1);
    CHECK.due("all of all", everybody(8).always(5), 255);
    AskAnotherFirst x = everybody(8);
    x.law(3);
    CHECK.due("EARLY: of eight one is missing", x.always(5), 32);
  }

  // "TOOK: WAYS with a told TIME: how many; PERSONS (bits) on all of these."; "0 none"; "-4"

  private static void tookDue(AskAnotherFirst x, int person, int time, int many, int bits) {
    CHECK.due("took(" + person + ", " + time + ", 0)", x.took(person, time, 0), many);
    CHECK.due("took(" + person + ", " + time + ", 1)", x.took(person, time, 1), bits);
  }

  private static void took() {
    AskAnotherFirst x = chain(8, 60);
    tookDue(x, 0, 840, 1, 255);
    for (int other : new int[] {0, 1, 420, 838, 839, 841, 842, 840 + 65536, 1 << 30, MOST}) {
      tookDue(x, 0, other, 0, 0);
    }
    tookDue(x, 7, 0, 1, 128);
    tookDue(x, 7, 1, 0, 0);
    tookDue(x, 6, 120, 1, 192);
    tookDue(x, 6, 60, 0, 0);
    tookDue(chain(2, 1), 0, 2, 1, 3);
    tookDue(chain(2, 1), 0, 1, 0, 0);
    tookDue(chain(2, 1), 0, 3, 0, 0);
    CHECK.due("took(0, -1, 0)", x.took(0, -1, 0), -4);
    CHECK.due("took(0, least, 1)", x.took(0, LEAST, 1), -4);
  }

  private static void tookOfSeveral() {
    AskAnotherFirst x = CHECK.told(FOUR, "a01,3;a02,5;a03,6;a13,3;a23,1;");
    // 0 1 3 of 12, 0 2 3 of 12, 0 3 of 12.
    tookDue(x, 0, 12, 3, 9);
    Check.tell(x, "a02,6;");
    // 0 2 3 of 14.
    tookDue(x, 0, 12, 2, 9);
    tookDue(x, 0, 14, 1, 13);
    x.ask(3);
    // 0 1 of 6 and 0 2 of 12.
    tookDue(x, 0, 12, 1, 5);
    tookDue(x, 0, 6, 1, 3);
    tookDue(x, 0, 14, 0, 0);
    CHECK.due("all of all", everybody(8).took(0, 14, 0), 5040);
  }

  // "FOE: of all others the one who .."; "-9"

  private static void foeIsAnOther() {
    CHECK.due("alone", CHECK.told("pnb100,0;").foe(0), -9);
    CHECK.due("nobody on the way", CHECK.told("pnb100,0;pnb1,0;").foe(0), -9);
    CHECK.due("he himself would harm", CHECK.told("pnb100,0;pnb100,0;a01,1;").foe(0), -9);
    CHECK.due("of two, one other", CHECK.told("pnm1,0;pnb100,0;a01,1;").foe(0), 1);
    CHECK.due("of two, the other is 0", CHECK.told("pnb100,0;pnm1,0;a10,1;").foe(1), 0);
    AskAnotherFirst x = chain(8, 1);
    Check.tell(x, "l3;");
    CHECK.due("all are BETTER, and as wise", x.foe(0), -9);
    AskAnotherFirst y = CHECK.told("pnm1,0;pnb100,0;a01,1;");
    y.ask(1);
    CHECK.due("the other has been ASKED", y.foe(0), -9);
  }

  // ".. would make RIGHT of RUN least, .. less than now"

  private static void foeIsLessThanNow() {
    for (int knows = 0; knows <= 100; knows++) {
      AskAnotherFirst x = CHECK.told("pnm1,0;pno" + knows + ",0;a01,1;");
      CHECK.due("of one who knows " + knows, x.foe(0), knows > 50 ? 1 : -9);
      AskAnotherFirst wrong = CHECK.told("pnm1,0;pnx" + knows + ",0;a01,1;");
      CHECK.due("of one who is WRONG already, " + knows, wrong.foe(0), -9);
    }
  }

  // ".. of several the least"

  private static void foeLeastOfSeveral() {
    AskAnotherFirst x = CHECK.told("pnm1,0;pnm1,0;pnm1,0;pnm90,0;", "a03,1;a32,1;a21,1;");
    Check.tell(x, "pnm90,0;a14,1;");
    CHECK.due("each makes 10 of 90", x.foe(0), 1);
    CHECK.due("each makes 10 of 90, from 3", x.foe(3), 1);
    CHECK.due("each makes 10 of 90, from 1", x.foe(1), 4);
    // Now (20 + 80) / 2; 1 as x makes 20, 2 as x makes 20, too.
    CHECK.due("alike", CHECK.told("pnm1,0;pnd20,0;pno80,0;a01,1;a12,1;").foe(0), 1);
    // 1 as x makes 20, 2 as x (19 + 20) / 2.
    CHECK.due("by one hundredth", CHECK.told("pnm1,0;pnd19,0;pno80,0;a01,1;a12,1;").foe(0), 2);
    CHECK.due("least of all, 0", CHECK.told("pnm1,0;pnd90,0;pno100,0;a01,1;a12,1;").foe(0), 1);
  }

  // "SWITCH: of KINDS of ASKERS n w s l f (0 .. 4) that with which .. most RIGHT, of several the least"

  private static void switchOfNothing() {
    for (char asker : "nwslf".toCharArray()) {
      String one = "p" + asker + "b1,0;";
      CHECK.due("alone, " + asker, CHECK.told(one).switching(0), 0);
      CHECK.due("one to ask, " + asker, CHECK.told(one + "pnb9,0;a01,1;").switching(0), 0);
      AskAnotherFirst x = CHECK.told("p" + asker + "o0,0;pnb1,0;pnb9,0;pnb5,0;a01,9;a02,8;a03,7;a32,1;");
      CHECK.due("RIGHT 0 with all, " + asker, x.switching(0), 0);
      CHECK.due("the KIND as it was, " + asker, x.person(0, 0), "nwslf".indexOf(asker));
    }
  }

  private static void switchByOneHundredth() {
    CHECK.due("like", CHECK.told("pfm0,0;pno50,0;pno50,0;a01,1;a02,2;").switching(0), 0);
    CHECK.due("by one", CHECK.told("pfm0,0;pno50,0;pno51,0;a01,1;a02,2;").switching(0), 1);
    CHECK.due("by one less", CHECK.told("pfm0,0;pno51,0;pno50,0;a01,1;a02,2;").switching(0), 0);
  }

  private static void switchLeastOfSeveral() {
    // 1 is far, 2 near; the wiser is WRONG, so that WISE is no good.
    String far = "a01,9;a02,1;";
    CHECK.due("only FIRST takes 1", CHECK.told("pnm0,0;pno60,0;pnx70,0;", far).switching(0), 4);
    CHECK.due("LONG and FIRST", CHECK.told("pnm0,0;pnm60,0;pnx70,0;pno40,0;", far + "a13,1;").switching(0), 3);
    CHECK.due("SHORT and FIRST", CHECK.told("pnm0,0;pno60,0;pnm70,0;pno40,0;", far + "a23,1;").switching(0), 2);
    CHECK.due("WISE and FIRST", CHECK.told("pnm0,0;pno60,0;pno50,0;", far).switching(0), 1);
    CHECK.due("all but FIRST", CHECK.told("pfm0,0;pno50,0;pno60,0;", far).switching(0), 0);
    CHECK.due("all", CHECK.told("pfm0,0;pno50,0;pno60,0;a02,1;").switching(0), 0);
  }

  private static void switchAsThingsStand() {
    AskAnotherFirst x = CHECK.told("pfm0,0;pno50,0;pno60,0;pno70,0;", "a01,1;a02,2;a03,3;");
    CHECK.due("WISE takes 3", x.switching(0), 1);
    x.ask(3);
    CHECK.due("3 ASKED: WISE takes 2", x.switching(0), 1);
    x.ask(2);
    CHECK.due("only 1 is left", x.switching(0), 0);
    x.day();
    x.law(4);
    CHECK.due("BACK: none of them", x.switching(0), 0);
    x.law(2);
    CHECK.due("STOP: all of them", x.switching(0), 1);
  }

  // "EDGE of one: TIME of RUN of a PERSON, less what it would be, if that other one could pass nothing on."

  private static void edge() {
    AskAnotherFirst x = chain(8, 60);
    for (int end = 1; end <= 7; end++) {
      CHECK.due("edge(0, " + end + ")", x.edge(0, end), 840 - 120 * end);
    }
    CHECK.due("not on the way", x.edge(7, 0), 0);
    CHECK.due("not on the way", x.edge(4, 3), 0);
    CHECK.due("by one MINUTE", chain(3, 1).edge(0, 1), 2);
    CHECK.due("two who ask nobody", CHECK.told(FOUR).edge(0, 3), 0);
    x.ask(7);
    CHECK.due("the end was ASKED", x.edge(0, 7), 0);
    CHECK.due("less TIME", x.edge(0, 1), 600);
    CHECK.due("he himself was ASKED", x.edge(7, 0), 1000000003);
  }

  /** Each of eight as the one who could pass nothing on, to whomever he would. */
  private static void edgeToNobodyAtAll() {
    for (int end = 0; end < 8; end++) {
      for (int next = 0; next < 8; next++) {
        int first = end == 0 || next == 0 ? (end == 1 || next == 1 ? 2 : 1) : 0;
        if (end != next) {
          AskAnotherFirst x = CHECK.told("pnb1,0;".repeat(8), "a" + first + end + ",2;a" + end + next + ",3;");
          CHECK.due("from " + end + " to " + next, x.edge(first, end), 6);
          CHECK.due("who is asked by nobody then", x.edge(first, next), 0);
        }
      }
    }
  }

  private static void edgeBelowNothing() {
    // LONG takes 1 as things stand, and 2, who is far, when none is behind 1.
    AskAnotherFirst x = CHECK.told("plb0,0;pnb0,0;pnb0,0;pnb0,0;", "a01,1;a02,60;a13,1;a23,60;");
    CHECK.due("the greatest TIME is in place of it", x.edge(0, 1), 4 - 240);
    CHECK.due("the other does not count", x.edge(0, 2), 0);
    CHECK.due("as it was", x.run(0, 0), 4);
  }

  // "TWO: two PERSONS are asked to-day, one after the other ..: RIGHT of both together"

  private static void twoDue(String why, AskAnotherFirst x, int one, int other, int right, int order) {
    CHECK.due(why + ", RIGHT", x.two(one, other, 0), right);
    CHECK.due(why + ", order", x.two(one, other, 1), order);
  }

  private static void two() {
    twoDue("the least", CHECK.told("pnb0,0;pnb0,0;"), 0, 1, 0, 0);
    twoDue("the greatest", CHECK.told("pnb100,0;pnb100,0;"), 0, 1, 200, 0);
    twoDue("the last of eight", CHECK.told("pnb1,0;".repeat(7) + "pnb9,0;"), 7, 0, 10, 0);
  }

  // "the second, if he has not been ASKED by then; else he adds 0"

  private static void twoSecondAddsNothing() {
    twoDue("in either order", CHECK.told("pnb10,0;pnb50,0;b01,1;"), 0, 1, 50, 0);
    twoDue("in the told order", CHECK.told("pnb10,0;pnb50,0;a01,1;"), 0, 1, 60, 1);
    twoDue("in the other order", CHECK.told("pnb10,0;pnb50,0;a01,1;"), 1, 0, 60, 0);
    twoDue("the first way has all", chain(8, 1), 0, 7, 2, 1);
    // 0 first: 0 says 50, and that is all; 1 first: 1 says 0 and 0 says 50.
    twoDue("nothing and 0 are alike", CHECK.told("pno50,0;pnb0,0;a01,1;"), 0, 1, 50, 0);
  }

  private static void twoWithoutWhoWasAsked() {
    AskAnotherFirst x = CHECK.told("pnm1,0;pnm2,0;pno50,0;pno60,0;", "a02,1;a12,1;a03,9;a13,9;");
    twoDue("2 for the first, 3 for the second", x, 0, 1, 110, 0);
    x.ask(2);
    // 3 for the first; the second says his own.
    twoDue("2 was ASKED", x, 0, 1, 62, 0);
    x.ask(3);
    twoDue("3, too", x, 0, 1, 3, 0);
    x.day();
    twoDue("a DAY more", x, 0, 1, 110, 0);
  }

  // "the greater; which order: 0 as they are told (of like ones, too), 1 the other"

  private static void twoOrders() {
    // The one who comes first takes 2; 0 makes 60 (or 20) of it, 1 makes 61 (or 20).
    String text = "pnd20,0;pnd22,0;pno100,0;a02,1;a12,1;";
    twoDue("0 first: 60 and 22, 1 first: 61 and 20", CHECK.told(text), 0, 1, 82, 0);
    String more = "pnd20,0;pnd23,0;pno100,0;a02,1;a12,1;";
    twoDue("0 first: 60 and 23, 1 first: 61 and 20", CHECK.told(more), 0, 1, 83, 0);
    twoDue("the same turned", CHECK.told(more), 1, 0, 83, 1);
    String like = "pnd20,0;pnd21,0;pno99,0;a02,1;a12,1;";
    // 0 first: 59 and 21, 1 first: 60 and 20.
    twoDue("like ones", CHECK.told(like), 0, 1, 80, 0);
    twoDue("like ones turned", CHECK.told(like), 1, 0, 80, 0);
  }

  private static void twoByLaw() {
    // STOP: each question may come to three others of its own.
    AskAnotherFirst x = CHECK.told("pnm1,0;".repeat(8), "a01,1;a12,1;a23,1;a45,1;a56,1;a67,1;l2;");
    twoDue("STOP", x, 0, 4, 2, 0);
    AskAnotherFirst y = CHECK.told("pnm1,5;pnm2,0;pnm90,5;a12,1;l1;");
    twoDue("KIN of who has been ASKED by then", y, 0, 1, 91, 1);
  }

  // "TREE: .. how many PERSONS have it; how long it takes; RIGHT"

  private static void treeDue(String why, AskAnotherFirst x, int person, int many, int time, int right) {
    CHECK.due(why + ", how many", x.tree(person, 0), many);
    CHECK.due(why + ", how long", x.tree(person, 1), time);
    CHECK.due(why + ", RIGHT", x.tree(person, 2), right);
  }

  private static void treeOfOne() {
    for (char sayer : "bomxd".toCharArray()) {
      AskAnotherFirst x = CHECK.told("pn" + sayer + "30,0;pnb1,0;");
      treeDue("of one, " + sayer, x, 0, 1, 0, sayer == 'x' ? 70 : 30);
    }
  }

  // "to one whom he MAY, and .. to one more so, if there is one still (each to two at most ..)"

  private static void treeToTwoAtMost() {
    String five = "pnm1,0;pno10,0;pno20,0;pno30,0;pno40,0;";
    treeDue("to one", CHECK.told(five, "a04,1;"), 0, 2, 2, 40);
    treeDue("to two", CHECK.told(five, "a03,2;a04,1;"), 0, 3, 6, 40);
    treeDue("to two of three", CHECK.told(five, "a02,3;a03,2;a04,1;"), 0, 3, 6, 40);
    treeDue("to two of four", CHECK.told(five, "a01,1;a02,2;a03,3;a04,4;"), 0, 3, 6, 20);
  }

  // "behind all that comes of this"

  private static void treeBehindAll() {
    String four = "pnm1,0;pnm10,0;pno20,0;pno30,0;";
    treeDue("1 took 2", CHECK.told(four, "a01,1;a02,2;a12,60;"), 0, 3, 122, 20);
    treeDue("1 took 2, 0 has 3", CHECK.told(four, "a01,1;a02,2;a03,60;a12,3;"), 0, 4, 128, 30);
    treeDue("1 took 2 and 3", CHECK.told(four, "a01,1;a02,2;a03,2;a12,3;a13,4;"), 0, 4, 16, 30);
  }

  private static void treeOfAll() {
    treeDue("eight in a row", chain(8, 60), 0, 8, 840, 1);
    treeDue("everybody", everybody(8), 3, 8, 14, 1);
    AskAnotherFirst x = chain(8, 60);
    x.ask(4);
    treeDue("4 was ASKED", x, 0, 4, 360, 1);
    AskAnotherFirst y = CHECK.told("pnm1,0;".repeat(7) + "pno77,0;");
    Check.tell(y, "a01,1;a12,1;a23,1;a34,1;a45,1;a56,1;a67,1;");
    treeDue("heard from the eighth", y, 0, 8, 14, 77);
  }

  // "RIGHT: as on a WAY, h being the greater of those that he heard"

  private static void treeHearsTheGreater() {
    for (String sayer : new String[] {"m", "b", "o", "x", "d"}) {
      int due = "m".equals(sayer) ? 61 : "b".equals(sayer) ? 61 : "o".equals(sayer) ? 20 : "x".equals(sayer) ? 39 : 40;
      String one = "pn" + sayer + "20,0;";
      treeDue("the first", CHECK.told(one + "pno61,0;pno60,0;a01,1;a02,1;"), 0, 3, 4, due);
      treeDue("the second", CHECK.told(one + "pno60,0;pno61,0;a01,1;a02,1;"), 0, 3, 4, due);
      treeDue("like ones", CHECK.told(one + "pno61,0;pno61,0;a01,1;a02,1;"), 0, 3, 4, due);
    }
    treeDue("0 is heard", CHECK.told("pnm50,0;pno0,0;a01,1;"), 0, 2, 2, 0);
  }

  private static void treeByLaw() {
    for (int persons = 1; persons <= 8; persons++) {
      AskAnotherFirst x = chain(persons, 1);
      x.law(2);
      CHECK.due("STOP, " + persons + " in a row", x.tree(0, 0), Math.min(persons, 4));
      x.law(3);
      CHECK.due("EARLY, " + persons + " in a row", x.tree(0, 0), Math.min(persons, 7));
    }
    AskAnotherFirst y = CHECK.told("pnb1,0;".repeat(8), "a01,1;a02,2;a13,3;a14,4;a25,5;a26,6;l2;");
    CHECK.due("STOP: 0 1 3 4, then none", y.tree(0, 1), 16);
    y.law(3);
    CHECK.due("EARLY: 0 1 3 4 2 5 6", y.tree(0, 1), 42);
    AskAnotherFirst z = CHECK.told("pnb1,0;pnb1,4;pnb1,4;a01,1;a02,1;l1;");
    CHECK.due("KIN: of two of one KIN one", z.tree(0, 0), 2);
    z.law(4);
    CHECK.due("BACK: none may ask him", z.tree(0, 0), 1);
  }

  // "DAYS with a seed z: n of them (1 .. 30)"; "-4; -6 30"

  private static void daysTaken() {
    AskAnotherFirst x = CHECK.told("pnb100,0;");
    for (int n = 1; n <= 30; n++) {
      CHECK.due("days(" + n + ", 5)", x.days(n, 5), 100 * n);
    }
    CHECK.due("days(0, 5)", x.days(0, 5), -4);
    CHECK.due("days(-1, 5)", x.days(-1, 5), -4);
    CHECK.due("days(31, 5)", x.days(31, 5), -6);
    CHECK.due("days(greatest, 5)", x.days(MOST, 5), -6);
    CHECK.due("days(30, 5) of one who knows nothing", CHECK.told("pnb0,0;").days(30, 5), 0);
  }

  // "z becomes z times 1664525 and 1013904223 (an int); (z without its sign's bit by 256, cut) modulo m"

  private static final String EIGHT = "pno1,0;pno2,0;pno3,0;pno4,0;pno5,0;pno6,0;pno7,0;pno8,0;";

  private static void daySeedsWrap() {
    AskAnotherFirst x = CHECK.told(EIGHT);
    // Seeds behind which z is 0, 255, 256, 2047, 2048, -1, -256, -257, the least, the greatest, the least and 256.
    int[] seeds = {
      634785765, 122584096, 103732453, 700178208, 681326565, 653637408, 1165839077, 1184690720, -1512697883,
      -1493846240, -2043751195
    };
    int[] draws = {0, 0, 1, 7, 0, 7, 7, 6, 0, 7, 1};
    for (int at = 0; at < seeds.length; at++) {
      CHECK.due("days(1, " + seeds[at] + ")", x.days(1, seeds[at]), draws[at] + 1);
    }
    // Told seeds at the ends of an int: 3 1 6 3 5 6, 1 5 1 2 5 1, 5 4 4 3 4 3 (twice), 3 1 6 3 5 6.
    int[] ends = {0, 1, -1, MOST, LEAST};
    int[][] sums = {{4, 6, 13, 17, 23, 30}, {2, 8, 10, 13, 19, 21}, {6, 11, 16, 20, 25, 29}, {6, 11, 16, 20, 25, 29},
        {4, 6, 13, 17, 23, 30}};
    for (int at = 0; at < ends.length; at++) {
      for (int n = 1; n <= 6; n++) {
        CHECK.due("days(" + n + ", " + ends[at] + ")", x.days(n, ends[at]), sums[at][n - 1]);
      }
    }
    CHECK.due("thirty", x.days(30, 9), 130);
  }

  // "a DRAW below PERSONS"

  private static void dayDraws() {
    // z is -1 behind this seed: 8388607 modulo 1 to 8.
    int[] due = {0, 1, 1, 3, 2, 1, 3, 7};
    for (int persons = 1; persons <= 8; persons++) {
      AskAnotherFirst x = CHECK.told(EIGHT.substring(0, 7 * persons));
      CHECK.due("a DRAW below " + persons, x.days(1, 653637408), due[persons - 1] + 1);
    }
  }

  // "on each nobody has been ASKED"

  private static void onEachDayNobodyAsked() {
    AskAnotherFirst x = CHECK.told("pnm1,0;pno80,0;b01,1;");
    // Draws 1 1 0 1 1 0 of seed 0: 80 from 0; 1 says his own 80, too.
    CHECK.due("six days", x.days(6, 0), 480);
    CHECK.due("ask(1)", x.ask(1), 80);
    CHECK.due("to-day all have been ASKED", x.days(6, 0), 480);
    CHECK.due("ASKED as they were", x.count(2), 2);
    CHECK.due("TIME as it was", x.count(3), 2);
    CHECK.due("the day as it was", x.count(4), 0);
    // From 0 the question goes on to 1, who says 80, and from 1 on to 0, who says 10.
    AskAnotherFirst y = CHECK.told("pnm10,0;pnm80,0;b01,1;");
    CHECK.due("draws 1 1 0 1 1 0", y.days(6, 0), 4 * 10 + 2 * 80);
    y.ask(0);
    CHECK.due("both have been ASKED to-day", y.days(6, 0), 4 * 10 + 2 * 80);
    y.law(4);
    CHECK.due("BACK", y.days(6, 0), 4 * 10 + 2 * 80);
    Check.tell(y, "pno100,0;a12,60;a02,60;l2;");
    CHECK.due("one came: draws 2 0 0 2 1 2", y.days(6, 0), 6 * 100);
  }

  // "In mind, as things stand."

  private static void nothingComesOfIt() {
    AskAnotherFirst x = CHECK.told("pfd10,1;psx60,2;plm70,1;pwo80,0;", "b01,4;b12,5;a23,6;b03,7;a31,8;");
    x.ask(3);
    x.day();
    long before = state(x);
    x.ways(0);
    x.soonest(0, -1);
    x.surest(1, 0);
    x.longest(2, 1);
    x.always(3);
    x.took(0, 18, 1);
    x.foe(0);
    x.switching(1);
    x.edge(0, 1);
    x.two(0, 2, 0);
    x.tree(0, 2);
    x.days(30, 77);
    CHECK.due("all as it was", state(x), before);
  }

  private static long state(AskAnotherFirst x) {
    long all = 7;
    for (int what = 0; what <= 7; what++) {
      all = all * 31 + x.count(what);
    }
    for (int p = 0; p < 4; p++) {
      for (int what = 0; what <= 4; what++) {
        all = all * 31 + x.person(p, what);
      }
      for (int other = 0; other < 4; other++) {
        all = all * 31 + x.minutes(p, other);
      }
      all = all * 31 + x.may(p);
      all = all * 31 + x.run(p, 1);
    }
    return all;
  }
}
