/** Promises 1 to 6: a new object, letter, town, person, minutes, law. */
public final class TownTest {
  private static final Check CHECK = new Check("TownTest");

  public static void main(String[] args) {
    aNewObject();
    letters();
    whatATownHolds();
    faultsOfForm();
    faultsOfSense();
    afterAFault();
    fullTown();
    persons();
    minutes();
    laws();
    CHECK.end();
  }

  private static void aNewObject() {
    AskAnotherFirst x = new AskAnotherFirst();
    for (int what = 0; what <= 7; what++) {
      CHECK.due("new count(" + what + ")", x.count(what), 0);
    }
    for (int what = 11; what <= 16; what++) {
      CHECK.due("new count(" + what + ")", x.count(what), 0);
    }
    CHECK.due("new person(0, 0)", x.person(0, 0), -1);
    CHECK.due("new on()", x.on(), -3);
    CHECK.due("new judge()", x.judge(), -3);
    CHECK.due("new day()", x.day(), 1);
  }

  private static void letters() {
    AskAnotherFirst x = new AskAnotherFirst();
    CHECK.due("letter(0)", x.letter(0), 1);
    CHECK.due("letter(255)", x.letter(255), 2);
    CHECK.due("letter(-1)", x.letter(-1), -4);
    CHECK.due("letter(least)", x.letter(Integer.MIN_VALUE), -4);
    CHECK.due("letter(256)", x.letter(256), -6);
    CHECK.due("letter(greatest)", x.letter(Integer.MAX_VALUE), -6);
    CHECK.due("count(7)", x.count(7), 2);
    for (int many = 3; many <= 64; many++) {
      CHECK.due("letter(65)", x.letter(65), many);
    }
    CHECK.due("letter(65), too many", x.letter(65), -6);
    CHECK.due("letter(-1), full", x.letter(-1), -4);
    CHECK.due("count(7), full", x.count(7), 64);
    CHECK.due("refusals", Check.refusals(x), 30003000000L);
    CHECK.due("town()", x.town(), -1000);
    CHECK.due("count(7), none", x.count(7), 0);
    CHECK.due("letter(112) anew", x.letter(112), 1);
  }

  private static void whatATownHolds() {
    AskAnotherFirst x = new AskAnotherFirst();
    CHECK.due("two persons", Check.tell(x, "pnb007,0;pfd100,9;"), 2);
    CHECK.due("knows 007", x.person(0, 2), 7);
    CHECK.due("knows 100", x.person(1, 2), 100);
    CHECK.due("kin 9", x.person(1, 3), 9);
    CHECK.due("minutes 07", Check.tell(x, "a01,07;"), 1);
    CHECK.due("one way", x.minutes(0, 1), 7);
    CHECK.due("not back", x.minutes(1, 0), -9);
    CHECK.due("count(1)", x.count(1), 1);
    CHECK.due("told again", Check.tell(x, "a01,60;l3;a01,1;"), 3);
    CHECK.due("the later place", x.minutes(0, 1), 1);
    CHECK.due("count(1) still", x.count(1), 1);
    CHECK.due("the law", x.count(5), 3);
    CHECK.due("both", Check.tell(x, "b10,60;"), 1);
    CHECK.due("there", x.minutes(0, 1), 60);
    CHECK.due("and back", x.minutes(1, 0), 60);
    CHECK.due("count(1), both", x.count(1), 2);
    CHECK.due("both of different minutes", Check.tell(x, "a01,2;pwo1,1;a12,3;"), 3);
    CHECK.due("there", x.minutes(0, 1), 2);
    CHECK.due("and back", x.minutes(1, 0), 60);
    CHECK.due("to one of the same text", x.minutes(1, 2), 3);
    CHECK.due("count(0)", x.count(0), 3);
    CHECK.due("the last law holds", Check.tell(x, "l4;l0;l2;"), 3);
    CHECK.due("law 2", x.count(5), 2);
    CHECK.due("nothing refused", Check.refusals(x), 0);
  }

  private static void fault(String text, int due) {
    AskAnotherFirst x = CHECK.told("pnb1,0;pnb2,0;a01,5;");
    CHECK.due("\"" + text + "\"", Check.tell(x, text), due);
    CHECK.due("persons after \"" + text + "\"", x.count(0), 2);
    CHECK.due("minutes after \"" + text + "\"", x.minutes(0, 1), 5);
    CHECK.due("minutes told after \"" + text + "\"", x.count(1), 1);
    CHECK.due("law after \"" + text + "\"", x.count(5), 0);
    CHECK.due("letters after \"" + text + "\"", x.count(7), 0);
    CHECK.due("refusals after \"" + text + "\"", Check.refusals(x), 0);
  }

  private static void faultsOfForm() {
    fault("", -1000);
    fault(";", -1000);
    fault("P", -1000);
    fault("\0", -1000);
    fault("\u00e9", -1000);
    fault("p", -1001);
    fault("pb", -1001);
    fault("pn", -1002);
    fault("pnn", -1002);
    fault("pnb", -1003);
    fault("pnb,", -1003);
    fault("pnb1", -1004);
    fault("pnb1;", -1004);
    fault("pnb1-", -1004);
    fault("pnb1,", -1005);
    fault("pnb1,,", -1005);
    fault("pnb1,0", -1006);
    fault("pnb1,00;", -1006);
    fault("pnb1000,0;", -1006);
    fault("a", -1001);
    fault("a0,1;", -1002);
    fault("ab1,1;", -1001);
    fault("a01", -1003);
    fault("a01;", -1003);
    fault("a01,", -1004);
    fault("a01,;", -1004);
    fault("b01,6", -1005);
    fault("b01,60", -1006);
    fault("b01,600;", -1006);
    fault("l", -1001);
    fault("l;", -1001);
    fault("l4", -1002);
    fault("l44;", -1002);
    fault("l4;;", -1003);
    fault("l4;pnb3,0;a02,7;l", -1017);
    // Of form comes before of sense, wherever they stand.
    fault("l9;l", -1004);
    fault("a00,1;pnb101,0;x", -1015);
    // 64 letters, and still something lacks.
    fault("l1;l1;l1;l1;l1;l1;l1;l1;l1;l1;l1;l1;l1;l1;l1;l1;l1;l1;l1;l1;l1;l", -1064);
  }

  private static void faultsOfSense() {
    fault("l5;", -2000);
    fault("l9;", -2000);
    fault("l4;l5;", -2003);
    fault("l5;l6;", -2000);
    fault("pnb101,0;", -2000);
    fault("pnb999,0;", -2000);
    fault("a01,0;", -2000);
    fault("a01,00;", -2000);
    fault("a01,61;", -2000);
    fault("b01,99;", -2000);
    fault("a00,1;", -2000);
    fault("b11,1;", -2000);
    fault("a02,1;", -2000);
    fault("b20,1;", -2000);
    fault("a99,1;", -2000);
    fault("a80,1;", -2000);
    // The first of several, and one who comes only behind.
    fault("pnb1,0;a23,4;pnb1,0;l7;", -2007);
    fault("a12,4;pnb1,0;", -2000);
    // All ahead of it in the text counts.
    fault("pnb1,0;a12,4;a13,4;", -2013);
  }

  private static void afterAFault() {
    AskAnotherFirst x = new AskAnotherFirst();
    CHECK.due("town() of nothing", x.town(), -1000);
    CHECK.due("a fault", Check.tell(x, "pnb1,0;b01,1;"), -2007);
    CHECK.due("count(0)", x.count(0), 0);
    CHECK.due("without fault", Check.tell(x, "pnb1,0;"), 1);
    CHECK.due("may(0)", x.may(0), 0);
    CHECK.due("count(1)", x.count(1), 0);
  }

  private static void fullTown() {
    AskAnotherFirst x = new AskAnotherFirst();
    String seven = "pnb1,1;pnb1,1;pnb1,1;pnb1,1;pnb1,1;pnb1,1;pnb1,1;";
    CHECK.due("nine at once", Check.tell(x, seven + "pnb1,1;pnb1,1;"), -2056);
    CHECK.due("none came", x.count(0), 0);
    // Just 64 letters.
    CHECK.due("seven and more", Check.tell(x, seven + "a06,1;b56,2;l1;"), 10);
    CHECK.due("seven", x.count(0), 7);
    CHECK.due("an eighth", Check.tell(x, "pxx"), -1001);
    CHECK.due("an eighth", Check.tell(x, "pwx9,2;a70,60;"), 2);
    CHECK.due("eight", x.count(0), 8);
    CHECK.due("the eighth", x.person(7, 2), 9);
    CHECK.due("his minutes", x.minutes(7, 0), 60);
    CHECK.due("a ninth", Check.tell(x, "pnb1,1;"), -2000);
    CHECK.due("a ninth behind a law", Check.tell(x, "l2;pnb1,1;"), -2003);
    CHECK.due("the law as it was", x.count(5), 1);
    CHECK.due("eight still", x.count(0), 8);
  }

  private static void persons() {
    AskAnotherFirst x = CHECK.told("pnb10,1;pwo20,2;psm30,3;plx40,4;pfd50,0;");
    for (int person = 0; person < 5; person++) {
      CHECK.due("asker of " + person, x.person(person, 0), person);
      CHECK.due("sayer of " + person, x.person(person, 1), person);
      CHECK.due("knows of " + person, x.person(person, 2), 10 * person + 10);
      CHECK.due("kin of " + person, x.person(person, 3), (person + 1) % 5);
      CHECK.due("asked of " + person, x.person(person, 4), 0);
    }
    CHECK.due("ask(3)", x.ask(3), 60);
    CHECK.due("asked of 3", x.person(3, 4), 1);
    CHECK.due("asked of 2", x.person(2, 4), 0);
    CHECK.due("person(5, 9)", x.person(5, 9), -1);
    CHECK.due("person(-1, 0)", x.person(-1, 0), -1);
    CHECK.due("person(8, 0)", x.person(8, 0), -1);
    CHECK.due("person(least, 0)", x.person(Integer.MIN_VALUE, 0), -1);
    CHECK.due("person(4, 5)", x.person(4, 5), -2);
    CHECK.due("person(4, -1)", x.person(4, -1), -2);
    CHECK.due("refusals", Check.refusals(x), 204);
  }

  private static void minutes() {
    AskAnotherFirst x = CHECK.told("pnb1,0;pnb2,0;pnb3,0;a01,1;b12,60;");
    CHECK.due("minutes(0, 1)", x.minutes(0, 1), 1);
    CHECK.due("minutes(1, 0)", x.minutes(1, 0), -9);
    CHECK.due("minutes(1, 2)", x.minutes(1, 2), 60);
    CHECK.due("minutes(2, 1)", x.minutes(2, 1), 60);
    CHECK.due("minutes(0, 2)", x.minutes(0, 2), -9);
    CHECK.due("minutes(1, 1)", x.minutes(1, 1), -9);
    CHECK.due("minutes(0, 3)", x.minutes(0, 3), -1);
    CHECK.due("minutes(3, 0)", x.minutes(3, 0), -1);
    CHECK.due("minutes(-1, 8)", x.minutes(-1, 8), -1);
    CHECK.due("refusals", Check.refusals(x), 3);
    // Who has been asked may ask by minutes all the same.
    x.ask(0);
    CHECK.due("minutes(0, 1), asked", x.minutes(0, 1), 1);
  }

  private static void laws() {
    AskAnotherFirst x = new AskAnotherFirst();
    CHECK.due("law(4)", x.law(4), 0);
    CHECK.due("law(2)", x.law(2), 4);
    CHECK.due("law(5)", x.law(5), -2);
    CHECK.due("law(-1)", x.law(-1), -2);
    CHECK.due("law(0)", x.law(0), 2);
    CHECK.due("law(0)", x.law(0), 0);
    CHECK.due("refusals", Check.refusals(x), 200);
  }
}
