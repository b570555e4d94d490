/**
 * The boundaries that the document names for the ROW, THE IMAGE and what is counted (promises 24 to 28), and
 * for 512 calls: a test for each sentence, the sentence ahead of it.
 */
public final class RowAndImageEdgesTest {
  private static final Check CHECK = new Check("RowAndImageEdgesTest");

  public static void main(String[] args) {
    rowTaken();
    rowOfEight();
    rowOfOne();
    firstWhoIsNone();
    firstWhoWasAsked();
    firstToWhomHeMayNot();
    mayNotByLaw();
    theFirstOfTwo();
    whereItEnds();
    itEndsWell();
    theRowHasNoneThen();
    judgedAsThingsStand();
    imageOfNobody();
    imageKeepsAll();
    imageKeepsMoreThanOnce();
    imageLacks();
    onToFewer();
    onToMore();
    laterImage();
    countsOfEach();
    countsOfRefusals();
    countOfAnother();
    fiveHundredAndTwelveCalls();
    CHECK.end();
  }

  private static AskAnotherFirst chain(int persons, int minutes) {
    AskAnotherFirst x = CHECK.told("pnb1,0;".repeat(persons));
    for (int p = 0; p + 1 < persons; p++) {
      CHECK.due("chain", Check.tell(x, "a" + p + (p + 1) + "," + minutes + ";"), 1);
    }
    return x;
  }

  private static void judged(String why, AskAnotherFirst x, String row, int due) {
    for (int i = 0; i < row.length(); i++) {
      CHECK.due(why + ", row", x.row(row.charAt(i) - '0'), i + 1);
    }
    CHECK.due(why, x.judge(), due);
    CHECK.due(why + ", the ROW has none then", x.count(6), 0);
  }

  // "A PERSON more of the ROW (0 .. 9): how many. -4; -6 (9; 8, too)"

  private static void rowTaken() {
    for (int v = 0; v <= 9; v++) {
      CHECK.due("row(" + v + ")", new AskAnotherFirst().row(v), 1);
    }
    CHECK.due("row(-1)", new AskAnotherFirst().row(-1), -4);
    CHECK.due("row(least)", new AskAnotherFirst().row(Integer.MIN_VALUE), -4);
    CHECK.due("row(10)", new AskAnotherFirst().row(10), -6);
    CHECK.due("row(greatest)", new AskAnotherFirst().row(Integer.MAX_VALUE), -6);
  }

  // "8 at most"

  private static void rowOfEight() {
    AskAnotherFirst x = new AskAnotherFirst();
    for (int many = 1; many <= 8; many++) {
      CHECK.due("row, the " + many + ".", x.row(many), many);
      CHECK.due("in the ROW", x.count(6), many);
    }
    CHECK.due("row, the 9.", x.row(0), -6);
    CHECK.due("row, the 9., below", x.row(-1), -4);
    CHECK.due("row, the 9., above", x.row(10), -6);
    CHECK.due("in the ROW", x.count(6), 8);
    CHECK.due("judge()", x.judge(), 0);
    CHECK.due("room again", x.row(0), 1);
  }

  // "A ROW of PERSONS .. JUDGED as a WAY: the first who is none"

  private static void rowOfOne() {
    for (int persons = 0; persons <= 8; persons++) {
      AskAnotherFirst x = new AskAnotherFirst();
      Check.tell(x, "pnb1,0;".repeat(persons));
      for (int v = 0; v <= 9; v++) {
        judged("of " + persons + " " + v, x, "" + v, v < persons ? -9 : 0);
      }
    }
  }

  private static void firstWhoIsNone() {
    AskAnotherFirst x = chain(4, 1);
    judged("at 4", x, "01234", 4);
    judged("at 3", x, "0129", 3);
    judged("at 1", x, "04", 1);
    judged("at 0", x, "401", 0);
    judged("ahead of a whole way", x, "90123", 0);
  }

  // "has been ASKED"

  private static void firstWhoWasAsked() {
    AskAnotherFirst x = chain(4, 1);
    x.ask(3);
    judged("the first one", x, "3", 0);
    judged("the fourth one", x, "0123", 3);
    judged("without him it ends", x, "012", -9);
    x.ask(1);
    judged("the second one", x, "012", 1);
    x.day();
    judged("a DAY more", x, "0123", -9);
  }

  // "or to whom the one ahead MAY not pass it on"

  private static void firstToWhomHeMayNot() {
    AskAnotherFirst x = CHECK.told("pnb1,0;pnb1,0;pnb1,0;pnb1,0;", "a01,1;b12,1;a23,1;a20,1;");
    judged("by no MINUTES", x, "02", 1);
    judged("only the other way", x, "0123", -9);
    judged("only the other way", x, "10", 1);
    judged("himself", x, "00", 1);
    judged("who holds it", x, "0121", 3);
    judged("who was asked first", x, "0120", 3);
    judged("far behind the first", x, "0130", 2);
  }

  private static void mayNotByLaw() {
    AskAnotherFirst x = chain(8, 1);
    x.law(2);
    judged("STOP, three others", x, "0123", -9);
    judged("STOP, a fourth", x, "01234", 4);
    judged("STOP, two others", x, "012", 3);
    x.law(3);
    judged("EARLY, six others", x, "0123456", -9);
    judged("EARLY, a seventh", x, "01234567", 7);
    judged("EARLY, five others", x, "012345", 6);
    x.law(4);
    judged("BACK", x, "01", 1);
    judged("BACK, it ends", x, "0", -9);
    AskAnotherFirst y = CHECK.told("pnb1,3;pnb1,0;pnb1,3;a01,1;a12,1;l1;");
    judged("KIN", y, "012", 2);
    judged("KIN, it ends", y, "01", -9);
    judged("KIN, not asked", y, "12", -9);
    y.law(0);
    judged("ONE", y, "012", -9);
  }

  private static void theFirstOfTwo() {
    AskAnotherFirst x = chain(5, 1);
    x.ask(4);
    judged("none, then ASKED", x, "054", 1);
    judged("ASKED, then none", x, "045", 1);
    judged("may not, then none", x, "0136", 2);
    judged("none, then may not", x, "0163", 2);
    judged("all at once", x, "99999999", 0);
  }

  // "where it ends, if it could go on"

  private static void whereItEnds() {
    AskAnotherFirst x = chain(8, 1);
    for (int many = 1; many <= 7; many++) {
      judged("the first " + many, x, "01234567".substring(0, many), many);
    }
    judged("one ahead of the last", x, "6", 1);
    x.ask(7);
    judged("the last was ASKED", x, "0123456", -9);
    judged("one more could go on", x, "012345", 6);
  }

  // "-9"

  private static void itEndsWell() {
    judged("one alone", chain(1, 1), "0", -9);
    judged("the last", chain(8, 1), "7", -9);
    judged("all of eight", chain(8, 1), "01234567", -9);
    judged("the eighth is amiss", chain(8, 1), "01234566", 7);
  }

  // "(whichever it answers, the ROW has none then)"; "-3 the ROW has none"

  private static void theRowHasNoneThen() {
    for (String row : new String[] {"9", "1", "0", "01", "012", "02"}) {
      AskAnotherFirst x = chain(3, 1);
      for (int i = 0; i < row.length(); i++) {
        x.row(row.charAt(i) - '0');
      }
      x.judge();
      CHECK.due("in the ROW behind " + row, x.count(6), 0);
      CHECK.due("judge() again behind " + row, x.judge(), -3);
      CHECK.due("row anew behind " + row, x.row(0), 1);
      CHECK.due("judge() anew behind " + row, x.judge(), 1);
    }
  }

  private static void judgedAsThingsStand() {
    AskAnotherFirst x = new AskAnotherFirst();
    x.row(0);
    x.row(1);
    CHECK.due("who were none come", Check.tell(x, "pnb1,0;pnb1,0;a01,1;"), 3);
    CHECK.due("and are judged", x.judge(), -9);
    x.row(0);
    x.row(1);
    x.ask(1);
    x.law(3);
    CHECK.due("the ROW as it was", x.count(6), 2);
    CHECK.due("who was ASKED since", x.judge(), 1);
    CHECK.due("nobody ASKED by it", x.count(2), 1);
  }

  // "THE IMAGE is taken: how many PERSONS."; "ON from it: how many PERSONS. -3 there is none."

  private static void imageOfNobody() {
    AskAnotherFirst x = new AskAnotherFirst();
    CHECK.due("on() of none", x.on(), -3);
    CHECK.due("image()", x.image(), 0);
    CHECK.due("on()", x.on(), 0);
    Check.tell(x, "pwo9,4;psx8,4;b01,3;l2;");
    x.ask(0);
    x.day();
    CHECK.due("on()", x.on(), 0);
    for (int what = 0; what <= 5; what++) {
      CHECK.due("count(" + what + ")", x.count(what), 0);
    }
    CHECK.due("person(0, 0)", x.person(0, 0), -1);
    // Nothing of those who were there is there for those who come now.
    CHECK.due("told", Check.tell(x, "pnb1,0;pnb1,0;"), 2);
    CHECK.due("MINUTES of none", x.minutes(0, 1), -9);
    CHECK.due("MINUTES told", x.count(1), 0);
    CHECK.due("nobody ASKED", x.count(2), 0);
    CHECK.due("told", Check.tell(x, "b01,1;l4;"), 2);
    CHECK.due("no KIN", x.may(0), 2);
  }

  // "all that is told, who has been ASKED, TIME to-day, the day .. ON from it all is as then."

  private static AskAnotherFirst pictured() {
    AskAnotherFirst x = CHECK.told("pfd10,1;pwx60,2;plm70,1;", "b01,4;a12,60;l3;");
    x.day();
    x.ask(1);
    CHECK.due("image()", x.image(), 3);
    return x;
  }

  private static void asThen(AskAnotherFirst x) {
    int[] counts = {3, 3, 2, 120, 1, 3};
    for (int what = 0; what < counts.length; what++) {
      CHECK.due("count(" + what + ")", x.count(what), counts[what]);
    }
    int[][] persons = {{4, 4, 10, 1, 0}, {1, 3, 60, 2, 1}, {3, 2, 70, 1, 1}};
    int[][] minutes = {{-9, 4, -9}, {4, -9, 60}, {-9, -9, -9}};
    for (int p = 0; p < 3; p++) {
      for (int what = 0; what <= 4; what++) {
        CHECK.due("person(" + p + ", " + what + ")", x.person(p, what), persons[p][what]);
      }
      for (int other = 0; other < 3; other++) {
        CHECK.due("minutes(" + p + ", " + other + ")", x.minutes(p, other), minutes[p][other]);
      }
    }
    CHECK.due("may(0)", x.may(0), 0);
    CHECK.due("may(1)", x.may(1), -3);
    CHECK.due("person(3, 0)", x.person(3, 0), -1);
  }

  private static void imageKeepsAll() {
    AskAnotherFirst x = pictured();
    asThen(x);
    CHECK.due("on() at once", x.on(), 3);
    asThen(x);
    x.law(0);
    x.ask(0);
    CHECK.due("on() behind an ASK", x.on(), 3);
    asThen(x);
    x.day();
    CHECK.due("on() behind a DAY", x.on(), 3);
    asThen(x);
    Check.tell(x, "pnb1,1;a01,9;b20,9;b03,1;l4;");
    CHECK.due("on() behind a TOWN", x.on(), 3);
    asThen(x);
    CHECK.due("the day goes on from it", x.day(), 2);
    x.law(4);
    CHECK.due("BACK as then", x.may(0), 2);
    CHECK.due("BACK as then", x.may(1), 1);
    x.law(1);
    CHECK.due("KIN as then", x.run(0, 2), 2);
  }

  private static void imageKeepsMoreThanOnce() {
    AskAnotherFirst x = pictured();
    for (int times = 1; times <= 3; times++) {
      x.day();
      x.law(times);
      x.ask(0);
      CHECK.due("on(), the " + times + ". time", x.on(), 3);
      asThen(x);
    }
  }

  // "(not the ROW, letters, REFUSALS)"

  private static void imageLacks() {
    AskAnotherFirst x = CHECK.told("pnb1,0;");
    x.row(0);
    x.letter('l');
    x.may(1);
    x.image();
    CHECK.due("the ROW, behind image()", x.count(6), 1);
    CHECK.due("letters, behind image()", x.count(7), 1);
    x.row(0);
    x.letter('1');
    x.letter(';');
    x.may(1);
    CHECK.due("on()", x.on(), 1);
    CHECK.due("the ROW", x.count(6), 2);
    CHECK.due("letters", x.count(7), 3);
    CHECK.due("REFUSALS", x.count(11), 2);
    CHECK.due("judge()", x.judge(), 1);
    CHECK.due("town()", x.town(), 1);
    x.on();
    CHECK.due("the ROW, judged", x.count(6), 0);
    CHECK.due("letters, a TOWN", x.count(7), 0);
    CHECK.due("LAW", x.count(5), 0);
  }

  private static void onToFewer() {
    AskAnotherFirst x = chain(2, 1);
    x.image();
    Check.tell(x, "pnb1,5;".repeat(6));
    Check.tell(x, "b12,1;b27,1;");
    x.ask(7);
    CHECK.due("on()", x.on(), 2);
    for (int p = 2; p < 8; p++) {
      CHECK.due("person(" + p + ", 4)", x.person(p, 4), -1);
    }
    CHECK.due("told", Check.tell(x, "pnb1,5;".repeat(6)), 6);
    CHECK.due("a ninth", Check.tell(x, "pnb1,5;"), -2000);
    CHECK.due("nobody ASKED", x.count(2), 0);
    CHECK.due("MINUTES told", x.count(1), 1);
    CHECK.due("may(7)", x.may(7), 0);
  }

  private static void onToMore() {
    AskAnotherFirst x = new AskAnotherFirst();
    x.image();
    Check.tell(x, "pnb1,5;".repeat(8));
    Check.tell(x, "a07,9;");
    CHECK.due("image() of eight", x.image(), 8);
    CHECK.due("on() to eight", x.on(), 8);
    CHECK.due("MINUTES", x.minutes(0, 7), 9);
  }

  private static void laterImage() {
    AskAnotherFirst x = CHECK.told("pnb1,0;");
    CHECK.due("image()", x.image(), 1);
    Check.tell(x, "pnb2,0;");
    x.day();
    CHECK.due("image(), a later one", x.image(), 2);
    x.day();
    CHECK.due("on()", x.on(), 2);
    CHECK.due("the day of the later one", x.count(4), 1);
  }

  // "0 PERSONS, 1 MINUTES told (each from one to one), 2 .. ASKED, 3 TIME to-day, 4 the day, 5 the LAW, .."

  private static void countsOfEach() {
    AskAnotherFirst x = CHECK.told("pnb1,0;".repeat(8));
    CHECK.due("PERSONS", x.count(0), 8);
    for (int one = 0; one < 8; one++) {
      for (int other = 0; other < 8; other++) {
        if (one != other) {
          int before = x.count(1);
          Check.tell(x, "a" + one + other + ",60;");
          CHECK.due("MINUTES told", x.count(1), before + 1);
        }
      }
    }
    CHECK.due("MINUTES of all", x.count(1), 56);
    Check.tell(x, "b01,1;a10,1;");
    CHECK.due("told again", x.count(1), 56);
    x.ask(0);
    CHECK.due("ASKED", x.count(2), 8);
    CHECK.due("TIME", x.count(3), 2 * (1 + 6 * 60));
    CHECK.due("LAW", x.count(5), 0);
    x.law(4);
    CHECK.due("LAW", x.count(5), 4);
  }

  // "11 .. 16 REFUSALS -1 .. -6"

  private static void countsOfRefusals() {
    AskAnotherFirst x = new AskAnotherFirst();
    for (int many = 1; many <= 40; many++) {
      x.may(0);
      x.law(5);
      x.on();
      x.row(-1);
      x.days(31, 0);
    }
    int[] due = {40, 40, 40, 40, 0, 40};
    for (int what = 11; what <= 16; what++) {
      CHECK.due("count(" + what + ")", x.count(what), due[what - 11]);
    }
    CHECK.due("edge(0, 0)", x.edge(0, 0), 1000000001);
    CHECK.due("of edge() it is -1", x.count(11), 41);
    Check.tell(x, "pnb1,0;pnb1,0;");
    x.ask(0);
    CHECK.due("edge(0, 1)", x.edge(0, 1), 1000000003);
    CHECK.due("of edge() it is -3", x.count(13), 41);
  }

  // "-9 for another what"

  private static void countOfAnother() {
    AskAnotherFirst x = pictured();
    int[] others = {-1, -2, -9, 8, 9, 10, 17, 18, 256, 267, Integer.MIN_VALUE, Integer.MAX_VALUE};
    for (int what : others) {
      CHECK.due("count(" + what + ")", x.count(what), -9);
    }
    CHECK.due("that is no REFUSAL", Check.refusals(x), 0);
  }

  // "An object is used for at most 512 calls after it has been made"

  private static void fiveHundredAndTwelveCalls() {
    AskAnotherFirst x = new AskAnotherFirst();
    for (int call = 1; call <= 511; call++) {
      CHECK.due("call " + call, x.law(5), -2);
    }
    CHECK.due("the 512. call", x.count(12), 511);
    AskAnotherFirst y = chain(8, 60);
    // So far 56 letters and a TOWN, then 7 times 7 letters and a TOWN: 113 calls.
    for (int day = 1; day <= 132; day++) {
      CHECK.due("ask(0)", y.ask(0), 1);
      CHECK.due("image()", y.image(), 8);
      CHECK.due("day()", y.day(), day);
    }
    CHECK.due("the 510. call", y.ask(0), 1);
    CHECK.due("the 511. call", y.count(2), 8);
    CHECK.due("the 512. call", y.count(3), 840);
  }
}
