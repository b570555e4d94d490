/** Many objects with many calls each, answered by the program and by the Oracle. */
public final class OracleTest {
  private static final Check CHECK = new Check("OracleTest");
  private static final int MOST_CALLS = 512;
  private static int seed = 1;
  private static int used = 0;

  public static void main(String[] args) {
    for (int round = 0; round < 4000; round++) {
      seed = round * 7919 + 1;
      play(new AskAnotherFirst(), new Oracle(), round);
    }
    CHECK.end();
  }

  private static int draw(int below) {
    seed = seed * 1103515245 + 12345;
    return (seed >>> 8) % below;
  }

  private static void play(AskAnotherFirst x, Oracle o, int round) {
    int crowd = 1 + draw(8);
    int kins = 1 + draw(6);
    int far = draw(2) == 0 ? 5 : 60;
    used = 0;
    for (int p = 0; p < crowd; p++) {
      tell(x, o, round, person(kins));
    }
    int edges = draw(crowd * crowd * 2);
    for (int e = 0; e < edges && e < 36; e++) {
      tell(x, o, round, edge(crowd, far));
    }
    while (used + 6 <= MOST_CALLS) {
      String text = anyText(crowd, kins);
      if (draw(50) == 0 && used + text.length() < MOST_CALLS) {
        tell(x, o, round, text);
      } else {
        one(x, o, "round " + round + ", call " + used + ", ", crowd);
        used += 6;
      }
    }
  }

  private static String person(int kins) {
    return "p" + "nwslf".charAt(draw(5)) + "bomxd".charAt(draw(5)) + draw(101) + "," + draw(kins) + ";";
  }

  private static String edge(int crowd, int far) {
    int one = draw(crowd);
    int other = draw(crowd);
    return "ab".charAt(draw(2)) + "" + one + "" + other + "," + (1 + draw(far)) + ";";
  }

  /** Statements, often with a letter that is off. */
  private static String anyText(int crowd, int kins) {
    String text = "";
    for (int n = draw(5); n >= 0; n--) {
      int of = draw(8);
      text += of < 3 ? person(kins) : of < 7 ? edge(crowd + 1, 62) : "l" + draw(6) + ";";
    }
    if (draw(2) == 0) {
      int at = draw(text.length());
      text = text.substring(0, at) + "pablnox,;019z".charAt(draw(13)) + text.substring(at + draw(2));
    }
    return draw(4) == 0 ? text.substring(0, draw(text.length() + 1)) : text;
  }

  private static void tell(AskAnotherFirst x, Oracle o, int round, String text) {
    used += text.length() + 1;
    for (int i = 0; i < text.length(); i++) {
      CHECK.due("letter", x.letter(text.charAt(i)), o.letter(text.charAt(i)));
    }
    CHECK.due("round " + round + ", \"" + text + "\"", x.town(), o.town());
  }

  /** Six calls of the program. */
  private static void one(AskAnotherFirst x, Oracle o, String where, int crowd) {
    int p = draw(16) == 0 ? draw(11) - 1 : draw(crowd);
    int q = draw(16) == 0 ? draw(11) - 1 : draw(crowd);
    int i = draw(10) - 2;
    int what = draw(10) == 0 ? draw(6) - 1 : draw(3);
    int time = draw(10) == 0 ? -1 : 2 * draw(12);
    int best = x.soonest(p, -1);
    CHECK.due(where + "soonest of all", best, o.soonest(p, -1));
    askForAnother(x, o, where, (p + 1) % crowd);
    switch (1 + draw(29)) {
      case 1 -> CHECK.due(where + "person " + p + " " + what, x.person(p, what), o.person(p, what));
      case 2 -> CHECK.due(where + "minutes " + p + " " + q, x.minutes(p, q), o.minutes(p, q));
      case 3 -> CHECK.due(where + "law " + i, x.law(i), o.law(i));
      case 4 -> CHECK.due(where + "ask " + p, x.ask(p), o.ask(p));
      case 5, 6 -> CHECK.due(where + "day", x.day(), o.day());
      case 7 -> CHECK.due(where + "may " + p, x.may(p), o.may(p));
      case 8 -> CHECK.due(where + "run " + p + " " + what, x.run(p, what), o.run(p, what));
      case 9 -> CHECK.due(where + "runOf " + p + " " + i, x.runOf(p, i), o.runOf(p, i));
      case 10 -> CHECK.due(where + "ways " + p, x.ways(p), o.ways(p));
      case 11 -> CHECK.due(where + "soonest " + p + " " + i, x.soonest(p, i), o.soonest(p, i));
      case 12 -> CHECK.due(where + "surest " + p + " " + i, x.surest(p, i), o.surest(p, i));
      case 13 -> CHECK.due(where + "longest " + p + " " + i, x.longest(p, i), o.longest(p, i));
      case 14 -> CHECK.due(where + "always " + p, x.always(p), o.always(p));
      case 15 -> CHECK.due(where + "took " + p, x.took(p, best, what), o.took(p, best, what));
      case 16 -> CHECK.due(where + "took " + p, x.took(p, time, what), o.took(p, time, what));
      case 17 -> CHECK.due(where + "foe " + p, x.foe(p), o.foe(p));
      case 18 -> CHECK.due(where + "switching " + p, x.switching(p), o.switching(p));
      case 19 -> CHECK.due(where + "edge " + p + " " + q, x.edge(p, q), o.edge(p, q));
      case 20 -> CHECK.due(where + "two " + p + " " + q, x.two(p, q, what), o.two(p, q, what));
      case 21 -> CHECK.due(where + "tree " + p + " " + what, x.tree(p, what), o.tree(p, what));
      case 22 -> CHECK.due(where + "days", x.days(i + 2, seed), o.days(i + 2, seed));
      case 23, 24, 25 -> CHECK.due(where + "row " + q, x.row(q), o.row(q));
      case 26 -> CHECK.due(where + "judge", x.judge(), o.judge());
      case 27 -> CHECK.due(where + "image", x.image(), o.image());
      case 28 -> CHECK.due(where + "on", x.on(), o.on());
      default -> CHECK.due(where + "count", x.count(i + 8), o.count(i + 8));
    }
    for (int n = 0; n < 2; n++) {
      int of = draw(17);
      CHECK.due(where + "then count " + of, x.count(of), o.count(of));
    }
  }

  /** So that what the last call left behind is of somebody else, and would show. */
  private static void askForAnother(AskAnotherFirst x, Oracle o, String where, int p) {
    CHECK.due(where + "run of another", x.run(p, 1), o.run(p, 1));
    CHECK.due(where + "longest of another", x.longest(p, 1), o.longest(p, 1));
  }
}
