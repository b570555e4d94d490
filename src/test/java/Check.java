/** Compares answers with those that are due, and tells those that are not so. */
final class Check {
  private final String name;
  private int seen = 0;
  private int wrong = 0;

  Check(String name) {
    this.name = name;
  }

  void due(String call, long got, long want) {
    seen++;
    if (got != want) {
      wrong++;
      System.out.println(name + ": " + call + " answered " + got + ", due is " + want);
    }
  }

  /** Tells each letter of the text (nothing else may stand among the letters). */
  static void letters(AskAnotherFirst x, String text) {
    for (int i = 0; i < text.length(); i++) {
      x.letter(text.charAt(i));
    }
  }

  /** Tells the text and makes a town of it. */
  static int tell(AskAnotherFirst x, String text) {
    letters(x, text);
    return x.town();
  }

  /** A new object, told text by text; a text of over 64 letters would not come whole. */
  AskAnotherFirst told(String... texts) {
    AskAnotherFirst x = new AskAnotherFirst();
    for (String text : texts) {
      if (tell(x, text) <= 0) {
        wrong++;
        System.out.println(name + ": a test's own text is no town: " + text);
      }
    }
    return x;
  }

  /** The WAY of RUN, as digits. */
  static long run(AskAnotherFirst x, int person) {
    return digits(x.run(person, 2), i -> x.runOf(person, i));
  }

  static long soonest(AskAnotherFirst x, int person) {
    return digits(8, i -> x.soonest(person, i));
  }

  static long surest(AskAnotherFirst x, int person) {
    return digits(8, i -> x.surest(person, i));
  }

  static long longest(AskAnotherFirst x, int person) {
    return digits(8, i -> x.longest(person, i));
  }

  /** Persons as digits behind a 1: 1023 is 0, 2, 3. */
  private static long digits(int most, java.util.function.IntUnaryOperator at) {
    long all = 1;
    for (int i = 0; i < most && at.applyAsInt(i) >= 0; i++) {
      all = all * 10 + at.applyAsInt(i);
    }
    return all;
  }

  /** The REFUSALS counted: those of -1 as units, of -2 as hundreds and so on. */
  static long refusals(AskAnotherFirst x) {
    long all = 0;
    for (int what = 16; what >= 11; what--) {
      all = all * 100 + x.count(what);
    }
    return all;
  }

  void end() {
    System.out.println(name + ": " + seen + " answers, " + wrong + " not as due");
    if (wrong != 0) {
      System.exit(1);
    }
  }
}
