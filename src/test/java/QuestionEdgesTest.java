/**
 * The boundaries that the document names for the way of a question (TO-DAY, ASKERS, TIME, RIGHT, ASK, DAY;
 * promises 7 to 11): a test for each sentence, the sentence ahead of it.
 */
public final class QuestionEdgesTest {
  private static final Check CHECK = new Check("QuestionEdgesTest");

  public static void main(String[] args) {
    mayNone();
    whoHasBeenAsked();
    whoHoldsIt();
    kinAboveNothing();
    kinOfWhomItCameTo();
    kinOfMany();
    kinOnlyUnderItsLaws();
    stopAtThreeOthers();
    earlyAtSixOthers();
    stopCountsItsOwnQuestion();
    backNeedsBoth();
    backIsAsKin();
    nearest();
    wisest();
    shortest();
    shortThenHeHoldsIt();
    shortByKinAndBack();
    shortByStop();
    longest();
    first();
    times();
    rights();
    rightOfTheLast();
    wrongOfWrong();
    asked();
    timeToday();
    day();
    mayBits();
    runOf();
    inMind();
    CHECK.end();
  }

  /** So many persons, each of whom may ask the next. */
  private static AskAnotherFirst chain(int persons, int minutes) {
    AskAnotherFirst x = CHECK.told("pnb1,0;".repeat(persons));
    for (int p = 0; p + 1 < persons; p++) {
      CHECK.due("chain", Check.tell(x, "a" + p + (p + 1) + "," + minutes + ";"), 1);
    }
    return x;
  }

  private static AskAnotherFirst everybody(int persons, String person) {
    AskAnotherFirst x = CHECK.told(person.repeat(persons));
    for (int one = 0; one < persons; one++) {
      for (int other = one + 1; other < persons; other++) {
        CHECK.due("everybody", Check.tell(x, "b" + one + other + ",1;"), 1);
      }
    }
    return x;
  }

  private static void way(String why, AskAnotherFirst x, int person, long due) {
    CHECK.due(why, Check.run(x, person), due);
  }

  // "MAY none: he ANSWERS." A WAY from him on is himself.

  private static void mayNone() {
    AskAnotherFirst x = CHECK.told("pnb7,0;");
    CHECK.due("may(0)", x.may(0), 0);
    CHECK.due("run(0, 0)", x.run(0, 0), 0);
    CHECK.due("run(0, 1)", x.run(0, 1), 7);
    CHECK.due("run(0, 2)", x.run(0, 2), 1);
    CHECK.due("runOf(0, 0)", x.runOf(0, 0), 0);
    CHECK.due("runOf(0, 1)", x.runOf(0, 1), -9);
    CHECK.due("ask(0)", x.ask(0), 7);
    CHECK.due("ASKED", x.count(2), 1);
    CHECK.due("TIME", x.count(3), 0);
  }

  // "who has not been ASKED (and does not hold it)"

  private static void whoHasBeenAsked() {
    AskAnotherFirst x = CHECK.told("pnb1,0;pnb1,0;pnb1,0;a01,1;a02,9;");
    way("nobody ASKED", x, 0, 101);
    x.ask(1);
    way("1 ASKED", x, 0, 102);
    x.ask(2);
    way("both ASKED", x, 0, 10);
    x.day();
    way("a DAY more", x, 0, 101);
  }

  private static void whoHoldsIt() {
    AskAnotherFirst x = CHECK.told("pnb1,0;pnb1,0;pnb1,0;b01,1;b12,1;a20,1;");
    way("0 holds it", x, 0, 1012);
    way("1 holds it", x, 1, 110);
    way("2 holds it", x, 2, 1201);
  }

  // "KIN under ONE: nor one of KIN (above 0) of which somebody has been ASKED or holds it"

  private static void kinAboveNothing() {
    for (int kin = 0; kin <= 9; kin++) {
      AskAnotherFirst x = CHECK.told("pnb1," + kin + ";pnb1," + kin + ";a01,1;l1;");
      way("both of KIN " + kin, x, 0, kin == 0 ? 101 : 10);
      AskAnotherFirst y = CHECK.told("pnb1," + kin + ";pnb1," + (9 - kin) + ";a01,1;l1;");
      way("of KIN " + kin + " and another", y, 0, 101);
    }
  }

  private static void kinOfWhomItCameTo() {
    AskAnotherFirst x = CHECK.told("pnb1,5;pnb1,0;pnb1,5;pnb1,6;a01,1;a12,1;a13,9;l1;");
    way("of KIN 5 holds it, two ahead", x, 0, 1013);
    way("of KIN 5 nobody holds it", x, 1, 112);
    x.ask(3);
    way("3 ASKED", x, 0, 101);
    x.ask(0);
    x.day();
    x.ask(2);
    way("of KIN 5 somebody has been ASKED", x, 1, 113);
    way("who is asked first may be of it", x, 0, 1013);
    x.day();
    way("a DAY more", x, 1, 112);
  }

  private static void kinOfMany() {
    for (int asked = 0; asked < 8; asked++) {
      AskAnotherFirst x = everybody(8, "pnb1,9;");
      x.law(1);
      CHECK.due("nobody of it ASKED, but he holds it", x.may(7 - asked), 0);
      CHECK.due("alone on his WAY", x.run(asked, 2), 1);
      x.law(0);
      CHECK.due("ONE", x.may(asked), 255 - (1 << asked));
    }
    for (int asked = 0; asked < 7; asked++) {
      AskAnotherFirst x = CHECK.told("pnb1,9;".repeat(7) + "pnb1,0;");
      Check.tell(x, "a70,1;a71,1;a72,1;a73,1;a74,1;a75,1;a76,1;l1;");
      CHECK.due("none of seven ASKED", x.may(7), 127);
      x.ask(asked);
      CHECK.due("of seven " + asked + " ASKED", x.may(7), 0);
      x.law(2);
      CHECK.due("STOP", x.may(7), 127 - (1 << asked));
    }
  }

  private static void kinOnlyUnderItsLaws() {
    AskAnotherFirst x = CHECK.told("pnb1,5;pnb1,5;b01,1;");
    long[] due = {101, 10, 101, 101, 10};
    for (int law = 0; law <= 4; law++) {
      x.law(law);
      way("LAW " + law, x, 0, due[law]);
    }
  }

  // "STOP under ONE: none, when it has come to three others than the one who was asked first."

  private static void stopAtThreeOthers() {
    for (int persons = 1; persons <= 8; persons++) {
      AskAnotherFirst x = chain(persons, 1);
      x.law(2);
      CHECK.due("STOP, " + persons + " in a row", x.run(0, 2), Math.min(persons, 4));
      CHECK.due("STOP, from the last", x.run(persons - 1, 2), 1);
      x.law(0);
      CHECK.due("ONE, " + persons + " in a row", x.run(0, 2), persons);
    }
  }

  // "EARLY under STOP: as STOP, but six."

  private static void earlyAtSixOthers() {
    for (int persons = 1; persons <= 8; persons++) {
      AskAnotherFirst x = chain(persons, 1);
      x.law(3);
      CHECK.due("EARLY, " + persons + " in a row", x.run(0, 2), Math.min(persons, 7));
    }
    AskAnotherFirst all = everybody(8, "pnb1,5;");
    all.law(3);
    CHECK.due("EARLY, KIN does not count", all.run(7, 2), 7);
  }

  private static void stopCountsItsOwnQuestion() {
    AskAnotherFirst x = CHECK.told("pnb1,0;".repeat(8), "a01,1;a12,1;a23,1;a34,1;a56,1;a67,1;l2;");
    x.ask(5);
    CHECK.due("three ASKED ahead of it", x.count(2), 3);
    way("those do not count", x, 0, 10123);
    CHECK.due("ask(0)", x.ask(0), 1);
    CHECK.due("four more ASKED", x.count(2), 7);
    CHECK.due("the fifth may still be asked", x.ask(4), 1);
  }

  // "BACK under KIN: as KIN, but only one who MAY ask him, too."

  private static void backNeedsBoth() {
    AskAnotherFirst x = CHECK.told("pnb1,0;pnb1,0;pnb1,0;a01,1;a02,2;l4;");
    way("none of both may ask him", x, 0, 10);
    Check.tell(x, "a20,60;");
    way("one may", x, 0, 102);
    CHECK.due("TIME is there and back his own", x.run(0, 0), 4);
    Check.tell(x, "a10,60;");
    way("both may", x, 0, 101);
    way("whom he may not ask", CHECK.told("pnb1,0;pnb1,0;a10,1;l4;"), 0, 10);
  }

  private static void backIsAsKin() {
    way("of one KIN", CHECK.told("pnb1,3;pnb1,3;b01,1;l4;"), 0, 10);
    way("of no KIN", CHECK.told("pnb1,0;pnb1,0;b01,1;l4;"), 0, 101);
    AskAnotherFirst x = CHECK.told("pnb1,3;pnb1,0;pnb1,3;b12,1;l4;");
    way("nobody of it ASKED", x, 1, 112);
    x.ask(0);
    way("of it somebody ASKED", x, 1, 11);
  }

  // "n NEAR under ASKER: by least MINUTES"; "Of several each the least PERSON."

  private static void nearest() {
    String three = "pnb1,0;pnb1,0;pnb1,0;pnb1,0;";
    way("the last is nearest", CHECK.told(three, "a01,3;a02,2;a03,1;"), 0, 103);
    way("by one MINUTE", CHECK.told(three, "a01,60;a02,60;a03,59;"), 0, 103);
    way("of three the least", CHECK.told(three, "a03,5;a02,5;a01,5;"), 0, 101);
    way("of two the least", CHECK.told(three, "a03,5;a02,5;a01,6;"), 0, 102);
  }

  // "w WISE under ASKER: with most KNOWS"

  private static void wisest() {
    String to = "a01,1;a02,2;a03,3;";
    way("by one hundredth", CHECK.told("pwb100,0;pnb0,0;pnb1,0;pnb2,0;", to), 0, 103);
    way("the greatest", CHECK.told("pwb0,0;pnb99,0;pnb100,0;pnb98,0;", to), 0, 102);
    way("of three the least", CHECK.told("pwb0,0;pnb0,0;pnb0,0;pnb0,0;", to), 0, 101);
    way("of two the least", CHECK.told("pwb0,0;pnb9,0;pnb10,0;pnb10,0;", to), 0, 102);
    way("MINUTES do not count", CHECK.told("pwb0,0;pnb9,0;pnb9,0;", "a01,60;a02,1;"), 0, 101);
  }

  // "s SHORT under NEAR: who could pass it on to fewest then (as if it were his), then by least MINUTES"

  private static final String SHORT_OF_SIX = "psb1,0;pnb1,0;pnb1,0;pnb1,0;pnb1,0;pnb1,0;";

  private static void shortest() {
    way("none behind 2", CHECK.told(SHORT_OF_SIX, "a01,1;a02,60;a13,1;"), 0, 102);
    way("one behind 2, two behind 1", CHECK.told(SHORT_OF_SIX, "a01,1;a02,60;a13,1;a14,1;a25,1;"), 0, 1025);
    way("like, then MINUTES", CHECK.told(SHORT_OF_SIX, "a01,2;a02,1;a13,1;a24,1;"), 0, 1024);
    way("like, of like MINUTES the least", CHECK.told(SHORT_OF_SIX, "a02,2;a01,2;a14,1;a23,1;"), 0, 1014);
    way("one alone, with most behind", CHECK.told(SHORT_OF_SIX, "a01,1;a12,1;a13,1;"), 0, 1012);
  }

  private static void shortThenHeHoldsIt() {
    // Who could pass it on only to those who hold it by then could to none.
    way("back to 0", CHECK.told(SHORT_OF_SIX, "b01,9;a02,1;a23,1;"), 0, 101);
    AskAnotherFirst x = CHECK.told(SHORT_OF_SIX, "a01,9;a02,1;a13,1;a14,1;a25,1;");
    way("two behind 1", x, 0, 1025);
    x.ask(3);
    way("one behind each, then MINUTES", x, 0, 1025);
    x.ask(4);
    way("none behind 1, all ASKED", x, 0, 101);
  }

  private static void shortByKinAndBack() {
    // Behind 1 is 3 only, of his own KIN; behind 2 is 4.
    AskAnotherFirst x = CHECK.told("psb1,0;pnb1,7;pnb1,0;pnb1,7;pnb1,0;", "a01,9;a02,1;a13,1;a24,1;");
    way("ONE: like, then MINUTES", x, 0, 1024);
    x.law(1);
    way("KIN: then he of KIN 7 holds it", x, 0, 101);
    AskAnotherFirst y = CHECK.told("psb1,0;pnb1,0;pnb1,0;pnb1,0;pnb1,0;", "b01,9;b02,1;a13,1;b24,1;");
    way("ONE: like, then MINUTES", y, 0, 1024);
    y.law(4);
    way("BACK: 3 may not ask 1", y, 0, 101);
  }

  private static void shortByStop() {
    // 1 is the one who chooses between 2, behind whom is 4, and 3.
    AskAnotherFirst x = CHECK.told("pnb1,0;psb1,0;pnb1,0;pnb1,0;pnb1,0;pnb1,0;", "a01,1;a12,1;a13,9;a24,1;l2;");
    way("it would have come to two others", x, 0, 1013);
    Check.tell(x, "a50,1;");
    way("it would have come to three others", x, 5, 15012);
    x.law(3);
    way("EARLY", x, 5, 15013);
    x.law(0);
    way("ONE", x, 5, 15013);
  }

  // "l LONG under NEAR: who could to most, then by least MINUTES"

  private static void longest() {
    String six = "plb1,0;pnb1,0;pnb1,0;pnb1,0;pnb1,0;pnb1,0;";
    way("one behind 2", CHECK.told(six, "a01,1;a02,60;a23,1;"), 0, 1023);
    way("one behind 1, two behind 2", CHECK.told(six, "a01,1;a02,60;a13,1;a24,1;a25,1;"), 0, 1024);
    way("like, then MINUTES", CHECK.told(six, "a01,2;a02,1;a13,1;a24,1;"), 0, 1024);
    way("like, of like MINUTES the least", CHECK.told(six, "a02,2;a01,2;a14,1;a23,1;"), 0, 1014);
    way("back to 0 is to none", CHECK.told(six, "b01,1;a02,60;a23,1;"), 0, 1023);
    AskAnotherFirst x = CHECK.told(six, "a01,1;a02,60;a23,1;");
    x.ask(3);
    way("none behind either, then MINUTES", x, 0, 101);
  }

  // "f FIRST under ASKER: the least."

  private static void first() {
    String four = "pfb1,0;pnb1,0;pnb1,0;pnb99,0;";
    way("the least, though far", CHECK.told(four, "a03,1;a02,2;a01,60;"), 0, 101);
    AskAnotherFirst x = CHECK.told(four, "a03,1;a02,60;");
    way("the least of whom he may", x, 0, 102);
    AskAnotherFirst last = CHECK.told("pnb1,0;pnb1,0;pfb1,0;", "a20,60;a21,1;");
    way("the least is 0", last, 2, 120);
  }

  // "TIME: all MINUTES of it, there and back (twice)."

  private static void times() {
    CHECK.due("the least", chain(2, 1).run(0, 0), 2);
    CHECK.due("the greatest", chain(8, 60).run(0, 0), 840);
    CHECK.due("none", chain(8, 60).run(7, 0), 0);
    AskAnotherFirst x = CHECK.told("pnb1,0;pnb1,0;a01,5;a10,60;");
    CHECK.due("twice those of the way there", x.run(0, 0), 10);
    CHECK.due("twice those of the other way", x.run(1, 0), 120);
  }

  // "RIGHT (hundredths), from its end back"

  private static void right(String sayer, int knows, int heard, int due) {
    AskAnotherFirst x = CHECK.told("pn" + sayer + knows + ",0;pno" + heard + ",0;a01,1;");
    CHECK.due(sayer + " who knows " + knows + " hears " + heard, x.run(0, 1), due);
  }

  private static void rights() {
    // "b BETTER under SAYER: the greater of KNOWS and h"
    right("b", 0, 0, 0);
    right("b", 40, 41, 41);
    right("b", 41, 40, 41);
    right("b", 40, 40, 40);
    right("b", 0, 100, 100);
    // "o OWN under SAYER: KNOWS"
    right("o", 0, 100, 0);
    right("o", 100, 0, 100);
    // "m MEEK under SAYER: h"
    right("m", 0, 100, 100);
    right("m", 100, 0, 0);
    // "x WRONG under MEEK: 100 less h"
    right("x", 30, 0, 100);
    right("x", 30, 100, 0);
    right("x", 30, 1, 99);
    // "d DOUBT under BETTER: half of KNOWS and h, cut"
    right("d", 0, 0, 0);
    right("d", 0, 1, 0);
    right("d", 1, 0, 0);
    right("d", 1, 1, 1);
    right("d", 1, 2, 1);
    right("d", 99, 100, 99);
    right("d", 100, 100, 100);
    right("d", 0, 100, 50);
  }

  // "the last SAYS KNOWS"; "(the last: 100 less KNOWS)"; "(the last: KNOWS)"

  private static void rightOfTheLast() {
    for (int knows : new int[] {0, 1, 50, 99, 100}) {
      for (char sayer : "bomxd".toCharArray()) {
        AskAnotherFirst x = CHECK.told("pn" + sayer + knows + ",0;");
        CHECK.due("the last, " + sayer + knows, x.run(0, 1), sayer == 'x' ? 100 - knows : knows);
      }
    }
  }

  private static void wrongOfWrong() {
    AskAnotherFirst x = CHECK.told("pnx30,0;".repeat(8));
    Check.tell(x, "a01,1;a12,1;a23,1;a34,1;a45,1;a56,1;a67,1;");
    for (int p = 0; p < 8; p++) {
      CHECK.due("WRONG from " + p, x.run(p, 1), p % 2 == 0 ? 30 : 70);
    }
  }

  // "ASK: a question comes to a PERSON who has not been ASKED ..: all on its WAY have been ASKED then"

  private static void asked() {
    AskAnotherFirst x = everybody(8, "pnb1,0;");
    CHECK.due("ask(3)", x.ask(3), 1);
    CHECK.due("all have been ASKED", x.count(2), 8);
    for (int p = 0; p < 8; p++) {
      CHECK.due("ASKED", x.person(p, 4), 1);
      CHECK.due("ask(" + p + ")", x.ask(p), -3);
    }
    CHECK.due("ask(8)", x.ask(8), -1);
    CHECK.due("TIME", x.count(3), 14);
    CHECK.due("nobody more", x.count(2), 8);
    x.day();
    CHECK.due("ask(3), a DAY more", x.ask(3), 1);
    AskAnotherFirst y = chain(8, 60);
    CHECK.due("ask(1)", y.ask(1), 1);
    CHECK.due("all but 0", y.count(2), 7);
    CHECK.due("ask(0)", y.ask(0), 1);
    CHECK.due("all", y.count(2), 8);
  }

  // "TIME to-day grows by its TIME"

  private static void timeToday() {
    AskAnotherFirst x = CHECK.told("pnb1,0;".repeat(8), "a01,60;a23,1;a45,30;");
    int[] due = {120, 122, 182, 182};
    for (int question = 0; question < 4; question++) {
      x.ask(2 * question);
      CHECK.due("TIME behind question " + question, x.count(3), due[question]);
    }
    CHECK.due("refused", x.ask(0), -3);
    CHECK.due("TIME as it was", x.count(3), 182);
  }

  // "DAY: nobody has been ASKED any more, TIME to-day is 0; the day (0 at first) is one more."

  private static void day() {
    AskAnotherFirst x = chain(3, 5);
    CHECK.due("0 at first", x.count(4), 0);
    x.law(3);
    x.ask(0);
    CHECK.due("day()", x.day(), 1);
    CHECK.due("ASKED", x.count(2), 0);
    CHECK.due("TIME", x.count(3), 0);
    CHECK.due("the day", x.count(4), 1);
    CHECK.due("PERSONS", x.count(0), 3);
    CHECK.due("MINUTES", x.count(1), 2);
    CHECK.due("LAW", x.count(5), 3);
    CHECK.due("day() without a question", x.day(), 2);
    AskAnotherFirst y = new AskAnotherFirst();
    for (int day = 1; day <= 512; day++) {
      CHECK.due("day " + day + " of 512 calls", y.day(), day);
    }
  }

  // "To whom a PERSON, asked first, MAY pass it on (bits)."

  private static void mayBits() {
    AskAnotherFirst x = everybody(8, "pnb1,0;");
    for (int p = 0; p < 8; p++) {
      CHECK.due("all but " + p, x.may(p), 255 - (1 << p));
    }
    for (int law = 2; law <= 4; law++) {
      x.law(law);
      CHECK.due("LAW " + law + " allows the first all", x.may(0), 254);
    }
    CHECK.due("to 7 alone", chain(8, 1).may(6), 128);
    CHECK.due("to none", chain(8, 1).may(7), 0);
  }

  // "RUN: the i-th PERSON; -9 none such."

  private static void runOf() {
    AskAnotherFirst x = chain(8, 1);
    for (int i = 0; i <= 7; i++) {
      CHECK.due("runOf(0, " + i + ")", x.runOf(0, i), i);
      CHECK.due("runOf(" + i + ", 0)", x.runOf(i, 0), i);
      CHECK.due("runOf(" + i + ", behind its end)", x.runOf(i, 8 - i), -9);
    }
    for (int i : new int[] {8, 9, 32, 256, Integer.MAX_VALUE}) {
      CHECK.due("runOf(0, " + i + ")", x.runOf(0, i), -9);
    }
    CHECK.due("runOf(0, -1)", x.runOf(0, -1), -4);
  }

  // "In mind, as things stand."

  private static void inMind() {
    AskAnotherFirst x = chain(4, 3);
    x.ask(3);
    for (int times = 0; times < 2; times++) {
      CHECK.due("run(0, 0)", x.run(0, 0), 12);
      CHECK.due("run(0, 2)", x.run(0, 2), 3);
      CHECK.due("runOf(0, 2)", x.runOf(0, 2), 2);
      CHECK.due("may(1)", x.may(1), 4);
      CHECK.due("ASKED", x.count(2), 1);
      CHECK.due("TIME", x.count(3), 0);
    }
  }
}
