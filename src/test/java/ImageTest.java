/** Promises 26 to 28: image, on, count. */
public final class ImageTest {
  private static final Check CHECK = new Check("ImageTest");

  public static void main(String[] args) {
    imageOfNothing();
    allIsAsThen();
    whatTheImageLacks();
    laterImage();
    counts();
    CHECK.end();
  }

  private static void imageOfNothing() {
    AskAnotherFirst x = new AskAnotherFirst();
    CHECK.due("on() of none", x.on(), -3);
    CHECK.due("image()", x.image(), 0);
    CHECK.due("told", Check.tell(x, "pwx9,3;pnb8,3;b01,4;l3;"), 4);
    CHECK.due("on()", x.on(), 0);
    CHECK.due("nobody", x.person(0, 0), -1);
    CHECK.due("no minutes", x.count(1), 0);
    CHECK.due("law", x.count(5), 0);
    CHECK.due("told anew", Check.tell(x, "pnb8,3;pnb8,0;l1;"), 3);
    CHECK.due("no minutes of before", x.minutes(0, 1), -9);
    CHECK.due("told anew", Check.tell(x, "a01,4;"), 1);
    CHECK.due("no kin of before", x.may(0), 2);
    CHECK.due("the one letter", x.person(0, 0), 0);
  }

  private static void allIsAsThen() {
    AskAnotherFirst x = CHECK.told("pwo20,5;pnb30,5;pnb70,0;pnb5,0;a01,6;b12,7;l3;");
    x.day();
    x.day();
    CHECK.due("ask(1)", x.ask(1), 70);
    CHECK.due("image()", x.image(), 4);
    x.law(2);
    x.day();
    x.ask(0);
    Check.tell(x, "pnb1,1;a01,9;a20,9;a43,1;l4;");
    CHECK.due("on()", x.on(), 4);
    CHECK.due("count(0)", x.count(0), 4);
    CHECK.due("count(1)", x.count(1), 3);
    CHECK.due("count(2)", x.count(2), 2);
    CHECK.due("count(3)", x.count(3), 14);
    CHECK.due("count(4)", x.count(4), 2);
    CHECK.due("count(5)", x.count(5), 3);
    CHECK.due("minutes(0, 1)", x.minutes(0, 1), 6);
    CHECK.due("minutes(2, 0)", x.minutes(2, 0), -9);
    CHECK.due("person(0, 0)", x.person(0, 0), 1);
    CHECK.due("person(0, 1)", x.person(0, 1), 1);
    CHECK.due("person(0, 2)", x.person(0, 2), 20);
    CHECK.due("person(0, 3)", x.person(0, 3), 5);
    CHECK.due("person(0, 4)", x.person(0, 4), 0);
    CHECK.due("person(1, 4)", x.person(1, 4), 1);
    CHECK.due("person(2, 4)", x.person(2, 4), 1);
    CHECK.due("may(0)", x.may(0), 0);
    CHECK.due("ask(3)", x.ask(3), 5);
    CHECK.due("on() once more", x.on(), 4);
    CHECK.due("person(3, 4)", x.person(3, 4), 0);
    CHECK.due("day()", x.day(), 3);
    x.law(4);
    CHECK.due("may(0), back", x.may(0), 0);
    CHECK.due("may(2), back", x.may(2), 2);
    CHECK.due("refusals", Check.refusals(x), 0);
  }

  private static void whatTheImageLacks() {
    AskAnotherFirst x = CHECK.told("pnb1,0;");
    x.row(0);
    x.letter('l');
    x.letter(-1);
    x.image();
    x.row(4);
    x.row(5);
    x.letter('2');
    x.letter(-1);
    x.person(1, 1);
    CHECK.due("on()", x.on(), 1);
    CHECK.due("the row", x.count(6), 3);
    CHECK.due("the letters", x.count(7), 2);
    CHECK.due("refusals", Check.refusals(x), 2000001);
    CHECK.due("the letters go on", Check.tell(x, ";"), 1);
    CHECK.due("law", x.count(5), 2);
    CHECK.due("judge()", x.judge(), 1);
  }

  private static void laterImage() {
    AskAnotherFirst x = CHECK.told("pnb1,0;");
    CHECK.due("image()", x.image(), 1);
    Check.tell(x, "pnb1,0;");
    CHECK.due("image()", x.image(), 2);
    Check.tell(x, "pnb1,0;");
    CHECK.due("on()", x.on(), 2);
    CHECK.due("on()", x.on(), 2);
    x.ask(0);
    CHECK.due("the image is as it was", x.on(), 2);
    CHECK.due("nobody asked", x.count(2), 0);
  }

  private static void counts() {
    AskAnotherFirst x = CHECK.told("pnb1,0;pnb1,0;pnb1,0;b01,5;a12,6;l0;");
    x.day();
    x.ask(1);
    x.law(4);
    x.row(7);
    x.letter(1);
    x.letter(1);
    x.letter(1);
    int[] due = {3, 3, 2, 10, 1, 4, 1, 3, -9, -9, -9};
    for (int what = 0; what < due.length; what++) {
      CHECK.due("count(" + what + ")", x.count(what), due[what]);
    }
    x.may(5);
    for (int i = 0; i < 2; i++) {
      x.law(9);
    }
    for (int i = 0; i < 3; i++) {
      x.may(0);
    }
    for (int i = 0; i < 4; i++) {
      x.row(-4);
    }
    for (int i = 0; i < 6; i++) {
      x.row(11);
    }
    CHECK.due("count(11)", x.count(11), 1);
    CHECK.due("count(12)", x.count(12), 2);
    CHECK.due("count(13)", x.count(13), 3);
    CHECK.due("count(14)", x.count(14), 4);
    CHECK.due("count(15)", x.count(15), 0);
    CHECK.due("count(16)", x.count(16), 6);
    CHECK.due("count(17)", x.count(17), -9);
    CHECK.due("count(-1)", x.count(-1), -9);
    CHECK.due("count(greatest)", x.count(Integer.MAX_VALUE), -9);
    CHECK.due("count(least)", x.count(Integer.MIN_VALUE), -9);
    x.edge(0, 0);
    CHECK.due("count(11), edge's, too", x.count(11), 2);
  }
}
