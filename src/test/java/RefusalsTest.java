import java.util.ArrayList;
import java.util.List;

/**
 * Every REFUSAL of every call, alone and where two fit at once: the first that fits in the order in which
 * the promise tells them is answered and counted, and nothing else changes.
 */
public final class RefusalsTest {
  private static final Check CHECK = new Check("RefusalsTest");
  private static final int LEAST = Integer.MIN_VALUE;
  private static final int MOST = Integer.MAX_VALUE;

  // No such PERSONS in a town of five (0 .. 4); many of them would be one if a number wrapped round.
  private static final int[] NONE = {
    -1, 5, 6, 7, 8, 9, 31, 32, 33, 36, 64, 256, 257, 65536, -2, -8, -31, -32, -256, LEAST, LEAST + 1, MOST
  };
  private static final int FREE = 0;
  private static final int ALSO_FREE = 1;
  private static final int ASKED = 3;
  private static final int ALSO_ASKED = 4;

  private interface Start {
    AskAnotherFirst make();
  }

  private interface Call {
    int of(AskAnotherFirst x);
  }

  private interface OfPerson {
    int of(AskAnotherFirst x, int person);
  }

  private interface OfTwo {
    int of(AskAnotherFirst x, int person, int i);
  }

  public static void main(String[] args) {
    letter();
    person();
    minutes();
    law();
    nobodyOrAsked();
    whatBetween();
    belowBetween();
    took();
    edge();
    twoNobody();
    twoOtherOrState();
    days();
    row();
    judge();
    on();
    whatIsNoRefusal();
    nobodyAnyMore();
    CHECK.end();
  }

  // ---- The objects that refuse.

  /** Five persons, 3 and 4 asked on day 1, an image of three on day 0, a ROW of three, two letters. */
  private static AskAnotherFirst some() {
    AskAnotherFirst x = CHECK.told("pnb10,0;pwo20,1;psm30,0;", "b01,5;a12,6;a20,7;");
    x.image();
    x.day();
    CHECK.due("told", Check.tell(x, "plx40,2;pfd50,1;a34,8;l3;"), 4);
    CHECK.due("ask(3)", x.ask(ASKED), 50);
    x.row(0);
    x.row(1);
    x.row(2);
    Check.letters(x, "l2");
    return x;
  }

  private static AskAnotherFirst fullOfLetters() {
    AskAnotherFirst x = some();
    String rest = "l2;".repeat(19).substring(2) + "pnb9,0;";
    Check.letters(x, rest);
    CHECK.due("full of letters", x.count(7), 64);
    return x;
  }

  private static AskAnotherFirst fullRow() {
    AskAnotherFirst x = some();
    for (int more = 0; more < 5; more++) {
      x.row(0);
    }
    CHECK.due("a full row", x.count(6), 8);
    return x;
  }

  private static AskAnotherFirst noRow() {
    AskAnotherFirst x = some();
    CHECK.due("judge()", x.judge(), -9);
    return x;
  }

  private static AskAnotherFirst noImage() {
    AskAnotherFirst x = CHECK.told("pnb10,0;pnb20,0;a01,1;");
    x.day();
    x.ask(1);
    x.row(0);
    x.letter('l');
    return x;
  }

  private static AskAnotherFirst nobody() {
    AskAnotherFirst x = new AskAnotherFirst();
    x.day();
    x.law(2);
    x.row(4);
    x.letter('l');
    return x;
  }

  // ---- All that can be seen of an object, at the end of its use.

  private static void seen(List<Integer> all, AskAnotherFirst x) {
    for (int what = 0; what <= 7; what++) {
      all.add(x.count(what));
    }
    for (int one = 0; one < x.count(0); one++) {
      for (int what = 0; what <= 4; what++) {
        all.add(x.person(one, what));
      }
      for (int other = 0; other < x.count(0); other++) {
        all.add(x.minutes(one, other));
      }
      all.add(x.may(one));
      all.add(x.run(one, 0));
      all.add(x.run(one, 1));
      all.add(x.ways(one));
      all.add(x.tree(one, 1));
    }
  }

  private static List<Integer> allSeen(AskAnotherFirst x) {
    List<Integer> all = new ArrayList<>();
    seen(all, x);
    all.add(x.judge());
    all.add(x.letter(';'));
    all.add(x.town());
    all.add(x.count(0));
    all.add(x.count(5));
    all.add(x.on());
    seen(all, x);
    return all;
  }

  /** The call is refused twice, each time so; but for that the object is like one without the call. */
  private static void refused(Start start, String call, Call made, int answer) {
    AskAnotherFirst x = start.make();
    AskAnotherFirst without = start.make();
    int number = answer > 0 ? 1000000000 - answer : answer;
    for (int times = 1; times <= 2; times++) {
      CHECK.due(call + " the " + times + ". time", made.of(x), answer);
      for (int what = 11; what <= 16; what++) {
        int due = without.count(what) + (what == 10 - number ? times : 0);
        CHECK.due("count(" + what + ") behind " + call, x.count(what), due);
      }
    }
    boolean like = allSeen(x).equals(allSeen(without));
    CHECK.due("all else as it was behind " + call, like ? 1 : 0, 1);
  }

  private static void refused(String call, Call made, int answer) {
    refused(RefusalsTest::some, call, made, answer);
  }

  /** -1, for each who is none. */
  private static void nobody(String call, OfPerson made, int answer) {
    for (int none : NONE) {
      refused(call + " of " + none, x -> made.of(x, none), answer);
    }
    refused(RefusalsTest::nobody, call + " where nobody is", x -> made.of(x, 0), answer);
  }

  // ---- "letter: -4; -6 (255; 64, too)"

  private static void letter() {
    for (int below : new int[] {-1, -2, -112, -256, LEAST}) {
      refused("letter(" + below + ")", x -> x.letter(below), -4);
      refused(RefusalsTest::fullOfLetters, "letter(" + below + "), full", x -> x.letter(below), -4);
    }
    for (int above : new int[] {256, 257, 256 + 'l', 65536 + ';', MOST}) {
      refused("letter(" + above + ")", x -> x.letter(above), -6);
      refused(RefusalsTest::fullOfLetters, "letter(" + above + "), full", x -> x.letter(above), -6);
    }
    for (int fits : new int[] {0, ';', 255}) {
      refused(RefusalsTest::fullOfLetters, "letter(" + fits + "), full", x -> x.letter(fits), -6);
    }
  }

  // ---- "person: -1; -2"

  private static void person() {
    nobody("person(p, 0)", (x, p) -> x.person(p, 0), -1);
    for (int what : new int[] {-1, 5, 6, 32, 256, LEAST, MOST}) {
      refused("person(0, " + what + ")", x -> x.person(FREE, what), -2);
      refused("person(3, " + what + ")", x -> x.person(ASKED, what), -2);
      refused("person(5, " + what + ")", x -> x.person(5, what), -1);
      refused("person(-1, " + what + ")", x -> x.person(-1, what), -1);
    }
  }

  // ---- "minutes: -1 either"

  private static void minutes() {
    nobody("minutes(p, 0)", (x, p) -> x.minutes(p, 0), -1);
    nobody("minutes(0, p)", (x, p) -> x.minutes(0, p), -1);
    nobody("minutes(p, p)", (x, p) -> x.minutes(p, p), -1);
    refused("minutes(5, -1)", x -> x.minutes(5, -1), -1);
  }

  // ---- "law: -2"

  private static void law() {
    for (int none : new int[] {-1, 5, 6, 9, 256, LEAST, MOST}) {
      refused("law(" + none + ")", x -> x.law(none), -2);
    }
  }

  // ---- "-1; -3": ask, may, ways, always, foe, switching

  private static void nobodyOrAsked() {
    nobodyOrAsked("ask", (x, p) -> x.ask(p));
    nobodyOrAsked("may", (x, p) -> x.may(p));
    nobodyOrAsked("ways", (x, p) -> x.ways(p));
    nobodyOrAsked("always", (x, p) -> x.always(p));
    nobodyOrAsked("foe", (x, p) -> x.foe(p));
    nobodyOrAsked("switching", (x, p) -> x.switching(p));
  }

  private static void nobodyOrAsked(String call, OfPerson made) {
    nobody(call, made, -1);
    refused(call + " of who was asked", x -> made.of(x, ASKED), -3);
    refused(call + " of whom the question came to", x -> made.of(x, ALSO_ASKED), -3);
  }

  // ---- "-1; -2; -3": run, tree

  private static void whatBetween() {
    whatBetween("run", (x, p, what) -> x.run(p, what));
    whatBetween("tree", (x, p, what) -> x.tree(p, what));
  }

  private static void whatBetween(String call, OfTwo made) {
    for (int fits = 0; fits <= 2; fits++) {
      int what = fits;
      nobody(call + "(p, " + what + ")", (x, p) -> made.of(x, p, what), -1);
      refused(call + "(3, " + what + ")", x -> made.of(x, ASKED, what), -3);
    }
    for (int what : new int[] {-1, 3, 4, 256, LEAST, MOST}) {
      refused(call + "(0, " + what + ")", x -> made.of(x, FREE, what), -2);
      refused(call + "(5, " + what + ")", x -> made.of(x, 5, what), -1);
      refused(call + "(-1, " + what + ")", x -> made.of(x, -1, what), -1);
      refused(call + "(3, " + what + ")", x -> made.of(x, ASKED, what), -2);
    }
  }

  // ---- "-1; -4; -3": runOf (from 0 on), soonest, surest, longest (from -1 on)

  private static void belowBetween() {
    belowBetween("runOf", (x, p, i) -> x.runOf(p, i), 0);
    belowBetween("soonest", (x, p, i) -> x.soonest(p, i), -1);
    belowBetween("surest", (x, p, i) -> x.surest(p, i), -1);
    belowBetween("longest", (x, p, i) -> x.longest(p, i), -1);
  }

  private static void belowBetween(String call, OfTwo made, int least) {
    for (int fits : new int[] {least, 0, 8, MOST}) {
      nobody(call + "(p, " + fits + ")", (x, p) -> made.of(x, p, fits), -1);
      refused(call + "(3, " + fits + ")", x -> made.of(x, ASKED, fits), -3);
    }
    for (int below : new int[] {least - 1, -9, LEAST}) {
      refused(call + "(0, " + below + ")", x -> made.of(x, FREE, below), -4);
      refused(call + "(5, " + below + ")", x -> made.of(x, 5, below), -1);
      refused(call + "(-1, " + below + ")", x -> made.of(x, -1, below), -1);
      refused(call + "(3, " + below + ")", x -> made.of(x, ASKED, below), -4);
    }
  }

  // ---- "took: -1; -2; -3 likewise; -4"

  private static void took() {
    nobody("took(p, 0, 0)", (x, p) -> x.took(p, 0, 0), -1);
    nobody("took(p, -1, 2)", (x, p) -> x.took(p, -1, 2), -1);
    for (int what : new int[] {-1, 2, LEAST, MOST}) {
      refused("took(0, 0, " + what + ")", x -> x.took(FREE, 0, what), -2);
      refused("took(5, 0, " + what + ")", x -> x.took(5, 0, what), -1);
      refused("took(3, 0, " + what + ")", x -> x.took(ASKED, 0, what), -2);
      refused("took(0, -1, " + what + ")", x -> x.took(FREE, -1, what), -2);
      refused("took(3, -1, " + what + ")", x -> x.took(ASKED, -1, what), -2);
    }
    for (int what = 0; what <= 1; what++) {
      int fits = what;
      refused("took(3, 0, " + what + ")", x -> x.took(ASKED, 0, fits), -3);
      for (int below : new int[] {-1, -2, LEAST}) {
        refused("took(0, " + below + ", " + what + ")", x -> x.took(FREE, below, fits), -4);
        refused("took(5, " + below + ", " + what + ")", x -> x.took(5, below, fits), -1);
        refused("took(3, " + below + ", " + what + ")", x -> x.took(ASKED, below, fits), -3);
      }
    }
  }

  // ---- "Of edge() REFUSALS are 1000000000 less them"; "-1 either (one twice, too); -3 likewise"

  private static void edge() {
    nobody("edge(p, 0)", (x, p) -> x.edge(p, FREE), 1000000001);
    nobody("edge(0, p)", (x, p) -> x.edge(FREE, p), 1000000001);
    nobody("edge(p, p)", (x, p) -> x.edge(p, p), 1000000001);
    nobody("edge(3, p)", (x, p) -> x.edge(ASKED, p), 1000000001);
    refused("edge(0, 0)", x -> x.edge(FREE, FREE), 1000000001);
    refused("edge(3, 3)", x -> x.edge(ASKED, ASKED), 1000000001);
    refused("edge(3, 0)", x -> x.edge(ASKED, FREE), 1000000003);
    refused("edge(4, 3)", x -> x.edge(ALSO_ASKED, ASKED), 1000000003);
  }

  // ---- "two: -1 either (one twice, too); -2; -3 either has been ASKED"

  private static void twoNobody() {
    nobody("two(p, 0, 0)", (x, p) -> x.two(p, FREE, 0), -1);
    nobody("two(0, p, 1)", (x, p) -> x.two(FREE, p, 1), -1);
    nobody("two(p, p, 0)", (x, p) -> x.two(p, p, 0), -1);
    nobody("two(p, 3, 2)", (x, p) -> x.two(p, ASKED, 2), -1);
    nobody("two(3, p, 1)", (x, p) -> x.two(ASKED, p, 1), -1);
    refused("two(0, 0, 0)", x -> x.two(FREE, FREE, 0), -1);
    refused("two(0, 0, 2)", x -> x.two(FREE, FREE, 2), -1);
    refused("two(3, 3, 1)", x -> x.two(ASKED, ASKED, 1), -1);
  }

  private static void twoOtherOrState() {
    for (int what : new int[] {-1, 2, 256, LEAST, MOST}) {
      refused("two(0, 1, " + what + ")", x -> x.two(FREE, ALSO_FREE, what), -2);
      refused("two(3, 1, " + what + ")", x -> x.two(ASKED, ALSO_FREE, what), -2);
      refused("two(0, 4, " + what + ")", x -> x.two(FREE, ALSO_ASKED, what), -2);
      refused("two(3, 4, " + what + ")", x -> x.two(ASKED, ALSO_ASKED, what), -2);
    }
    for (int what = 0; what <= 1; what++) {
      int fits = what;
      refused("two(3, 0, " + what + ")", x -> x.two(ASKED, FREE, fits), -3);
      refused("two(0, 3, " + what + ")", x -> x.two(FREE, ASKED, fits), -3);
      refused("two(4, 3, " + what + ")", x -> x.two(ALSO_ASKED, ASKED, fits), -3);
    }
  }

  // ---- "days: -4; -6 30; -3 there are no PERSONS"

  private static void days() {
    for (int below : new int[] {0, -1, LEAST}) {
      refused("days(" + below + ", 5)", x -> x.days(below, 5), -4);
      refused(RefusalsTest::nobody, "days(" + below + ", 5), nobody", x -> x.days(below, 5), -4);
    }
    for (int above : new int[] {31, 32, 257, MOST}) {
      refused("days(" + above + ", 5)", x -> x.days(above, 5), -6);
      refused(RefusalsTest::nobody, "days(" + above + ", 5), nobody", x -> x.days(above, 5), -6);
    }
    for (int fits : new int[] {1, 30}) {
      refused(RefusalsTest::nobody, "days(" + fits + ", -5), nobody", x -> x.days(fits, -5), -3);
    }
  }

  // ---- "row: -4; -6 (9; 8, too)"

  private static void row() {
    for (int below : new int[] {-1, -9, -256, LEAST}) {
      refused("row(" + below + ")", x -> x.row(below), -4);
      refused(RefusalsTest::fullRow, "row(" + below + "), full", x -> x.row(below), -4);
    }
    for (int above : new int[] {10, 11, 256, MOST}) {
      refused("row(" + above + ")", x -> x.row(above), -6);
      refused(RefusalsTest::fullRow, "row(" + above + "), full", x -> x.row(above), -6);
    }
    for (int fits : new int[] {0, 4, 9}) {
      refused(RefusalsTest::fullRow, "row(" + fits + "), full", x -> x.row(fits), -6);
    }
  }

  // ---- "judge: -3 the ROW has none"; "on: -3 there is none"

  private static void judge() {
    refused(AskAnotherFirst::new, "judge(), a new object", x -> x.judge(), -3);
    refused(RefusalsTest::noRow, "judge(), the ROW has been judged", x -> x.judge(), -3);
  }

  private static void on() {
    refused(AskAnotherFirst::new, "on(), a new object", x -> x.on(), -3);
    refused(RefusalsTest::nobody, "on(), nobody", x -> x.on(), -3);
    refused(RefusalsTest::noImage, "on(), no image", x -> x.on(), -3);
  }

  /** -9 is no REFUSAL, nor a FAULT, nor an empty answer. */
  private static void whatIsNoRefusal() {
    AskAnotherFirst x = some();
    CHECK.due("minutes(0, 0)", x.minutes(0, 0), -9);
    CHECK.due("runOf(0, 8)", x.runOf(0, 8), -9);
    CHECK.due("soonest(0, 8)", x.soonest(0, 8), -9);
    CHECK.due("surest(0, 8)", x.surest(0, 8), -9);
    CHECK.due("longest(0, 8)", x.longest(0, 8), -9);
    CHECK.due("foe(0)", x.foe(0), -9);
    CHECK.due("count(8)", x.count(8), -9);
    CHECK.due("judge()", x.judge(), -9);
    CHECK.due("town()", x.town(), -1002);
    CHECK.due("edge(0, 3), the other was asked", x.edge(0, 3), 0);
    CHECK.due("took(0, greatest, 0)", x.took(0, MOST, 0), 0);
    CHECK.due("refusals", Check.refusals(x), 0);
  }

  /** Whom ON took away is none, though he had been asked. */
  private static void nobodyAnyMore() {
    AskAnotherFirst x = some();
    CHECK.due("on()", x.on(), 3);
    CHECK.due("ask(3)", x.ask(3), -1);
    CHECK.due("may(4)", x.may(4), -1);
    CHECK.due("person(3, 4)", x.person(3, 4), -1);
    CHECK.due("minutes(3, 4)", x.minutes(3, 4), -1);
    CHECK.due("two(0, 3, 0)", x.two(0, 3, 0), -1);
    CHECK.due("edge(3, 0)", x.edge(3, 0), 1000000001);
    CHECK.due("refusals", Check.refusals(x), 6);
  }
}
