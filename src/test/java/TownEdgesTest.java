/**
 * The boundaries that the document names for a new object, letters, STATEMENTS and FAULTS (promises 1 to 6):
 * a test for each sentence, the sentence ahead of it.
 */
public final class TownEdgesTest {
  private static final Check CHECK = new Check("TownEdgesTest");
  private static final String DIGITS = "0123456789";
  private static final String SEVEN = "pnb1,1;".repeat(7);

  public static void main(String[] args) {
    aNewObjectHasNothing();
    aNewObjectAnswersNobody();
    lettersTaken();
    sixtyFourLetters();
    townOfSixtyFourLetters();
    lettersAreNoMore();
    eachLetterThatCanGoOn();
    aSemicolonBehindEach();
    atLeastOneStatement();
    knows();
    kin();
    kinds();
    eightPersonsInOneText();
    eightPersonsInManyTexts();
    whoIsThere();
    twoAlike();
    minutesOfAText();
    toldAgain();
    bothToldAgain();
    lawOfAText();
    formBeforeSense();
    firstOfTheFaults();
    greatestPlaces();
    aFaultBringsNothing();
    aTownComesToThatWhichStands();
    minutesOfNone();
    laws();
    CHECK.end();
  }

  private static int town(String text) {
    return Check.tell(new AskAnotherFirst(), text);
  }

  private static AskAnotherFirst eight() {
    return CHECK.told(SEVEN + "pnb1,1;");
  }

  // "A new object: Nobody."

  private static void aNewObjectHasNothing() {
    AskAnotherFirst x = new AskAnotherFirst();
    for (int what = -1; what <= 17; what++) {
      boolean counted = what >= 0 && what <= 7 || what >= 11 && what <= 16;
      CHECK.due("new: count(" + what + ")", x.count(what), counted ? 0 : -9);
    }
  }

  private static void aNewObjectAnswersNobody() {
    for (int p = 0; p <= 8; p++) {
      int who = p;
      newDue("person", x -> x.person(who, 0), -1);
      newDue("minutes", x -> x.minutes(who, 0), -1);
      newDue("ask", x -> x.ask(who), -1);
      newDue("may", x -> x.may(who), -1);
      newDue("run", x -> x.run(who, 0), -1);
      newDue("runOf", x -> x.runOf(who, 0), -1);
      newDue("ways", x -> x.ways(who), -1);
      newDue("soonest", x -> x.soonest(who, -1), -1);
      newDue("surest", x -> x.surest(who, -1), -1);
      newDue("longest", x -> x.longest(who, -1), -1);
      newDue("always", x -> x.always(who), -1);
      newDue("took", x -> x.took(who, 0, 0), -1);
      newDue("foe", x -> x.foe(who), -1);
      newDue("switching", x -> x.switching(who), -1);
      newDue("edge", x -> x.edge(who, 1), 1000000001);
      newDue("two", x -> x.two(who, 1, 0), -1);
      newDue("tree", x -> x.tree(who, 0), -1);
    }
    newDue("letter", x -> x.letter(0), 1);
    newDue("town", x -> x.town(), -1000);
    newDue("law", x -> x.law(0), 0);
    newDue("day", x -> x.day(), 1);
    newDue("days", x -> x.days(1, 1), -3);
    newDue("row", x -> x.row(0), 1);
    newDue("judge", x -> x.judge(), -3);
    newDue("image", x -> x.image(), 0);
    newDue("on", x -> x.on(), -3);
  }

  private static void newDue(String call, java.util.function.ToIntFunction<AskAnotherFirst> made, int due) {
    CHECK.due("new: " + call, made.applyAsInt(new AskAnotherFirst()), due);
  }

  // "A letter (0 .. 255) comes: how many there are. -4; -6 (255; 64, too)"

  private static void lettersTaken() {
    for (int c : new int[] {0, 1, 127, 128, 254, 255}) {
      CHECK.due("letter(" + c + ")", new AskAnotherFirst().letter(c), 1);
    }
    CHECK.due("letter(-1)", new AskAnotherFirst().letter(-1), -4);
    CHECK.due("letter(least)", new AskAnotherFirst().letter(Integer.MIN_VALUE), -4);
    CHECK.due("letter(256)", new AskAnotherFirst().letter(256), -6);
    CHECK.due("letter(greatest)", new AskAnotherFirst().letter(Integer.MAX_VALUE), -6);
  }

  private static void sixtyFourLetters() {
    AskAnotherFirst x = new AskAnotherFirst();
    for (int many = 1; many <= 64; many++) {
      CHECK.due("letter " + many, x.letter(many), many);
      CHECK.due("letters, " + many, x.count(7), many);
    }
    CHECK.due("the 65. letter", x.letter(';'), -6);
    CHECK.due("the 65. letter, below", x.letter(-1), -4);
    CHECK.due("the 65. letter, above", x.letter(256), -6);
    CHECK.due("letters still", x.count(7), 64);
  }

  // "A TOWN is told in letters, one by one (64 at most)"

  private static void townOfSixtyFourLetters() {
    CHECK.due("63 letters", town("l1;".repeat(21)), 21);
    CHECK.due("64 letters", town(SEVEN + "a06,1;b56,2;l1;"), 10);
    AskAnotherFirst x = new AskAnotherFirst();
    Check.letters(x, SEVEN + "a06,1;b56,2;l1;");
    CHECK.due("the 65. is no part of it", x.letter('l'), -6);
    CHECK.due("town()", x.town(), 10);
    CHECK.due("its last STATEMENT", x.count(5), 1);
  }

  // "The letters become a TOWN, and are no more (with a FAULT neither)"

  private static void lettersAreNoMore() {
    for (String text : new String[] {"", "l2;", "l2", "l9;", "?"}) {
      AskAnotherFirst x = new AskAnotherFirst();
      Check.tell(x, text);
      CHECK.due("letters behind " + text, x.count(7), 0);
      CHECK.due("town() behind " + text, x.town(), -1000);
      CHECK.due("letter behind " + text, x.letter('l'), 1);
      Check.letters(x, "3;");
      CHECK.due("town() anew behind " + text, x.town(), 1);
    }
    AskAnotherFirst full = new AskAnotherFirst();
    Check.letters(full, "l1;".repeat(21) + "l");
    CHECK.due("64 letters, something lacks", full.town(), -1064);
    CHECK.due("room again", full.letter(0), 1);
  }

  // "the place of the first letter with which no TOWN can go on (the end, if something lacks)"

  private static void eachLetterThatCanGoOn() {
    canGoOn("", "pabl");
    canGoOn("p", "nwslf");
    for (char asker : "nwslf".toCharArray()) {
      canGoOn("p" + asker, "bomxd");
    }
    for (char sayer : "bomxd".toCharArray()) {
      canGoOn("pn" + sayer, DIGITS);
    }
    canGoOn("pnb9", DIGITS + ",");
    canGoOn("pnb99", DIGITS + ",");
    canGoOn("pnb999", ",");
    canGoOn("pnb9,", DIGITS);
    canGoOn("pnb9,9", ";");
    for (String verb : new String[] {"a", "b"}) {
      canGoOn(verb, DIGITS);
      canGoOn(verb + "9", DIGITS);
      canGoOn(verb + "99", ",");
      canGoOn(verb + "99,", DIGITS);
      canGoOn(verb + "99,9", DIGITS + ";");
      canGoOn(verb + "99,99", ";");
    }
    canGoOn("l", DIGITS);
    canGoOn("l9", ";");
    canGoOn("l9;", "pabl");
  }

  /** Behind the text each of these letters can go on, and no other; where the text ends, something lacks. */
  private static void canGoOn(String text, String letters) {
    for (int c = 0; c <= 255; c++) {
      AskAnotherFirst x = new AskAnotherFirst();
      Check.letters(x, text);
      x.letter(c);
      boolean stuck = x.town() == -1000 - text.length();
      CHECK.due("behind \"" + text + "\" letter " + c, stuck ? 0 : 1, letters.indexOf(c) >= 0 ? 1 : 0);
    }
    if (!text.endsWith(";")) {
      CHECK.due("\"" + text + "\" lacks something", town(text), -1000 - text.length());
    }
  }

  // "STATEMENTS, each with ";" behind"

  private static void aSemicolonBehindEach() {
    CHECK.due("the last", town("l1"), -1002);
    CHECK.due("one ahead", town("l1l2;"), -1002);
    CHECK.due("twice", town("l1;;"), -1003);
    CHECK.due("alone", town(";"), -1000);
    CHECK.due("each", town("l1;l2;"), 2);
  }

  // "At least one STATEMENT."

  private static void atLeastOneStatement() {
    CHECK.due("none", town(""), -1000);
    CHECK.due("one", town("l0;"), 1);
  }

  // "KNOWS (1 to 3 digits, 0 .. 100 hundredths)"

  private static void knows() {
    String[] taken = {"0", "00", "000", "1", "01", "001", "9", "10", "99", "099", "100"};
    for (String digits : taken) {
      AskAnotherFirst x = new AskAnotherFirst();
      CHECK.due("KNOWS " + digits, Check.tell(x, "pnb" + digits + ",0;"), 1);
      CHECK.due("KNOWS " + digits + " is", x.person(0, 2), Integer.parseInt(digits));
    }
    for (String digits : new String[] {"101", "102", "110", "200", "999"}) {
      CHECK.due("KNOWS " + digits, town("pnb" + digits + ",0;"), -2000);
    }
    CHECK.due("KNOWS of no digit", town("pnb,0;"), -1003);
    CHECK.due("KNOWS of four digits", town("pnb0000,0;"), -1006);
    CHECK.due("KNOWS below 0", town("pnb-1,0;"), -1003);
  }

  // "KIN (a digit)"

  private static void kin() {
    for (int kin = 0; kin <= 9; kin++) {
      AskAnotherFirst x = new AskAnotherFirst();
      CHECK.due("KIN " + kin, Check.tell(x, "pnb1," + kin + ";"), 1);
      CHECK.due("KIN " + kin + " is", x.person(0, 3), kin);
    }
    CHECK.due("KIN of no digit", town("pnb1,;"), -1005);
    CHECK.due("KIN of two digits", town("pnb1,00;"), -1006);
  }

  // "0 KIND of ASKER (0 n, 1 w, 2 s, 3 l, 4 f), 1 KIND of SAYER (0 b, 1 o, 2 m, 3 x, 4 d)"

  private static void kinds() {
    for (int asker = 0; asker <= 4; asker++) {
      for (int sayer = 0; sayer <= 4; sayer++) {
        AskAnotherFirst x = CHECK.told("p" + "nwslf".charAt(asker) + "bomxd".charAt(sayer) + "1,0;");
        CHECK.due("ASKER " + asker, x.person(0, 0), asker);
        CHECK.due("SAYER " + sayer, x.person(0, 1), sayer);
      }
    }
  }

  // "a PERSON more (8 at most)"

  private static void eightPersonsInOneText() {
    CHECK.due("eight", town(SEVEN + "pnb1,1;"), 8);
    CHECK.due("the eighth is there", eight().person(7, 2), 1);
    CHECK.due("none is behind him", eight().person(8, 2), -1);
    CHECK.due("a ninth", town(SEVEN + "pnb1,1;pnb1,1;"), -2056);
    CHECK.due("a ninth, FAULTS of both kinds", town(SEVEN + "pnb1,1;pnb1,1"), -1062);
  }

  private static void eightPersonsInManyTexts() {
    AskAnotherFirst x = new AskAnotherFirst();
    for (int many = 1; many <= 8; many++) {
      CHECK.due("person " + many, Check.tell(x, "pnb1,1;"), 1);
      CHECK.due("persons", x.count(0), many);
    }
    CHECK.due("a ninth", Check.tell(x, "pnb1,1;"), -2000);
    CHECK.due("a ninth behind a law", Check.tell(x, "l1;pnb1,1;"), -2003);
    CHECK.due("persons", x.count(0), 8);
  }

  // "a PERSON that is not there ahead of it"

  private static void whoIsThere() {
    CHECK.due("nobody there", town("a01,1;"), -2000);
    CHECK.due("only the first there", town("pnb1,0;a01,1;"), -2007);
    CHECK.due("only the second there", town("pnb1,0;a10,1;"), -2007);
    CHECK.due("both there", town("pnb1,0;pnb1,0;a01,1;"), 3);
    CHECK.due("he comes behind it", town("pnb1,0;a01,1;pnb1,0;"), -2007);
    AskAnotherFirst x = CHECK.told("pnb1,0;");
    CHECK.due("there from an earlier text", Check.tell(x, "pnb1,0;a01,1;b10,1;"), 3);
    for (int p = 0; p <= 9; p++) {
      int due = p == 0 ? -2000 : p < 8 ? 1 : -2000;
      CHECK.due("a0" + p, Check.tell(eight(), "a0" + p + ",1;"), due);
      CHECK.due("b" + p + "0", Check.tell(eight(), "b" + p + "0,1;"), due);
    }
    CHECK.due("the last two of eight", Check.tell(eight(), "a67,1;a76,1;"), 2);
    CHECK.due("three digits", Check.tell(eight(), "a012,1;"), -1003);
    CHECK.due("three digits", Check.tell(eight(), "b012,1;"), -1003);
    CHECK.due("one digit", Check.tell(eight(), "a1,1;"), -1002);
  }

  // "two alike"

  private static void twoAlike() {
    for (int p = 0; p < 8; p++) {
      CHECK.due("a" + p + p, Check.tell(eight(), "a" + p + p + ",1;"), -2000);
      CHECK.due("b" + p + p, Check.tell(eight(), "b" + p + p + ",1;"), -2000);
    }
    CHECK.due("alike and not there", Check.tell(eight(), "a88,1;"), -2000);
  }

  // "MINUTES (1 or 2 digits, 1 .. 60)"

  private static void minutesOfAText() {
    for (String verb : new String[] {"a", "b"}) {
      for (String digits : new String[] {"1", "01", "2", "9", "09", "10", "59", "60"}) {
        AskAnotherFirst x = eight();
        CHECK.due("MINUTES " + digits, Check.tell(x, verb + "67," + digits + ";"), 1);
        CHECK.due("MINUTES " + digits + " are", x.minutes(6, 7), Integer.parseInt(digits));
        int back = verb.equals("b") ? Integer.parseInt(digits) : -9;
        CHECK.due("MINUTES " + digits + " back", x.minutes(7, 6), back);
        CHECK.due("MINUTES told", x.count(1), verb.equals("b") ? 2 : 1);
      }
      for (String digits : new String[] {"0", "00", "61", "62", "99"}) {
        CHECK.due("MINUTES " + digits, Check.tell(eight(), verb + "67," + digits + ";"), -2000);
      }
      CHECK.due("no digit", Check.tell(eight(), verb + "67,;"), -1004);
      CHECK.due("three digits", Check.tell(eight(), verb + "67,001;"), -1006);
    }
  }

  // "the first MAY ask the second (told again it takes the place)"

  private static void toldAgain() {
    AskAnotherFirst x = eight();
    CHECK.due("three times in a text", Check.tell(x, "a01,60;a01,7;a01,8;"), 3);
    CHECK.due("the last", x.minutes(0, 1), 8);
    CHECK.due("in a later text", Check.tell(x, "a01,60;"), 1);
    CHECK.due("the later", x.minutes(0, 1), 60);
    CHECK.due("one is told", x.count(1), 1);
    CHECK.due("not the other way", x.minutes(1, 0), -9);
  }

  // ""b" likewise: each the other"

  private static void bothToldAgain() {
    AskAnotherFirst x = eight();
    Check.tell(x, "a01,1;b01,2;");
    CHECK.due("b behind a", x.minutes(0, 1), 2);
    CHECK.due("b behind a, back", x.minutes(1, 0), 2);
    Check.tell(x, "a10,3;");
    CHECK.due("a behind b", x.minutes(1, 0), 3);
    CHECK.due("a behind b, there as it was", x.minutes(0, 1), 2);
    Check.tell(x, "b10,4;");
    CHECK.due("b turned", x.minutes(0, 1), 4);
    CHECK.due("b turned, back", x.minutes(1, 0), 4);
    CHECK.due("two are told", x.count(1), 2);
  }

  // ""l" LAW (a digit, 0 .. 4)"

  private static void lawOfAText() {
    for (int law = 0; law <= 9; law++) {
      AskAnotherFirst x = new AskAnotherFirst();
      x.law(2);
      CHECK.due("l" + law, Check.tell(x, "l" + law + ";"), law <= 4 ? 1 : -2000);
      CHECK.due("LAW behind l" + law, x.count(5), law <= 4 ? law : 2);
    }
    CHECK.due("no digit", town("l;"), -1001);
    CHECK.due("two digits", town("l00;"), -1002);
    CHECK.due("told again", town("l4;l1;"), 2);
  }

  // "kind 1 ..: -1000 less the place; else kind 2"

  private static void formBeforeSense() {
    CHECK.due("form behind sense", town("l9;x"), -1003);
    CHECK.due("an end that lacks, behind sense", town("l9;l"), -1004);
    CHECK.due("sense behind form", town("xl9;"), -1000);
    CHECK.due("both in one STATEMENT", town("pnb999,00;"), -1008);
    CHECK.due("both in one STATEMENT", town("a00,000;"), -1006);
    CHECK.due("sense alone", town("l9;l1;"), -2000);
  }

  // "the first letter of the first STATEMENT that, behind all ahead of it in the text, is not as it must be"

  private static void firstOfTheFaults() {
    CHECK.due("two", town("l1;l5;l6;"), -2003);
    CHECK.due("two, the first at 0", town("l5;l6;"), -2000);
    CHECK.due("the first STATEMENT of all", town("l5;l1;"), -2000);
    CHECK.due("two in one STATEMENT", town("l1;a99,99;"), -2003);
    CHECK.due("behind all ahead of it", town("pnb1,0;pnb1,0;a12,1;"), -2014);
    CHECK.due("what a FAULT told is not there", town("pnb1,0;pnb101,0;a01,1;"), -2007);
    CHECK.due("the first of form", town("l1?l1!"), -1002);
  }

  // The greatest places that 64 letters have.

  private static void greatestPlaces() {
    CHECK.due("the end of 64", town("l1;".repeat(21) + "l"), -1064);
    CHECK.due("the last of 64", town("l1;".repeat(21) + "?"), -1063);
    CHECK.due("the end of 63", town("l1;".repeat(20) + "pnb"), -1063);
    CHECK.due("a STATEMENT at 60", town("l1;".repeat(20) + "l5;"), -2060);
    CHECK.due("a STATEMENT at 61", town(SEVEN + "a06,1;b56,2;l5;"), -2061);
    CHECK.due("one that ends there", town("l1;".repeat(19) + "pnb101,"), -1064);
  }

  // "Without FAULT all of it comes, with one nothing."; "the FAULT (nothing is counted)"

  private static void aFaultBringsNothing() {
    String all = "pnb9,3;a01,9;b02,9;a30,9;l1;";
    for (String last : new String[] {"l5;", "a33,1;", "a34,1;", "b01,61;", "pnb101,1;", "l", "?"}) {
      AskAnotherFirst x = CHECK.told("pnb1,3;pnb2,0;pnb3,0;a01,5;l3;");
      x.ask(2);
      int end = all.length();
      int due = last.endsWith(";") ? -2000 - end : last.equals("l") ? -1001 - end : -1000 - end;
      CHECK.due("all and " + last, Check.tell(x, all + last), due);
      CHECK.due("persons", x.count(0), 3);
      CHECK.due("MINUTES told", x.count(1), 1);
      CHECK.due("MINUTES", x.minutes(0, 1), 5);
      CHECK.due("ASKED", x.count(2), 1);
      CHECK.due("LAW", x.count(5), 3);
      CHECK.due("nobody refused", Check.refusals(x), 0);
      CHECK.due("none other came", x.may(0), 2);
      CHECK.due("without FAULT all comes", Check.tell(x, all), 5);
      CHECK.due("persons", x.count(0), 4);
      CHECK.due("MINUTES told", x.count(1), 4);
      CHECK.due("LAW", x.count(5), 1);
    }
  }

  private static void aTownComesToThatWhichStands() {
    AskAnotherFirst x = CHECK.told("pnb1,0;pnb2,0;a01,5;l2;");
    x.day();
    x.ask(0);
    CHECK.due("two more", Check.tell(x, "pnb3,0;a12,6;"), 2);
    CHECK.due("ASKED still", x.count(2), 2);
    CHECK.due("TIME still", x.count(3), 10);
    CHECK.due("the day still", x.count(4), 1);
    CHECK.due("LAW still", x.count(5), 2);
    CHECK.due("the new one has not been ASKED", x.person(2, 4), 0);
  }

  // "MINUTES by which the one MAY ask the other; -9 he may not."

  private static void minutesOfNone() {
    AskAnotherFirst x = eight();
    Check.tell(x, "a07,60;b70,1;a16,2;");
    for (int one = 0; one < 8; one++) {
      for (int other = 0; other < 8; other++) {
        boolean ends = one == 0 && other == 7 || one == 7 && other == 0;
        int due = ends ? 1 : one == 1 && other == 6 ? 2 : -9;
        CHECK.due("minutes(" + one + ", " + other + ")", x.minutes(one, other), due);
      }
    }
  }

  // "The LAW: what it was. -2."

  private static void laws() {
    AskAnotherFirst x = new AskAnotherFirst();
    CHECK.due("law(0), the least", x.law(0), 0);
    CHECK.due("law(4), the greatest", x.law(4), 0);
    CHECK.due("law(5)", x.law(5), -2);
    CHECK.due("law(-1)", x.law(-1), -2);
    CHECK.due("law(4), the same", x.law(4), 4);
    CHECK.due("l1", Check.tell(x, "l1;"), 1);
    CHECK.due("law(2), that of the text was", x.law(2), 1);
    CHECK.due("LAW", x.count(5), 2);
  }
}
