/** No call fails, whatever it is asked in whatever state; 512 calls an object. */
public final class AnyArgumentsTest {
  private static final int[] ODD = {
    Integer.MIN_VALUE, Integer.MIN_VALUE + 1, -1000, -33, -9, -2, -1, 0, 1, 2, 3, 4, 5, 6, 7, 8, 9, 10,
    16, 30, 31, 32, 33, 64, 65, 255, 256, 1000, Integer.MAX_VALUE - 1, Integer.MAX_VALUE
  };
  private static final String LETTERS = "pabl;,0123456789nwslfbomxd";
  private static int seed = 77;

  public static void main(String[] args) {
    Check check = new Check("AnyArgumentsTest");
    for (int round = 0; round < 2000; round++) {
      AskAnotherFirst x = new AskAnotherFirst();
      Check.letters(x, round % 3 == 0 ? "" : "psb9,1;plx8,2;pwd70,1;b01,3;b12,4;b02,5;");
      x.town();
      for (int call = 0; call < 460; call++) {
        call(x, draw(27), odd(), odd(), odd());
      }
      check.due("no other refusal", x.count(15), 0);
    }
    check.end();
  }

  private static int draw(int below) {
    seed = seed * 1103515245 + 12345;
    return (seed >>> 8) % below;
  }

  private static int odd() {
    return draw(2) == 0 ? draw(4) : ODD[draw(ODD.length)];
  }

  private static int call(AskAnotherFirst x, int of, int a, int b, int c) {
    switch (of) {
      case 0: return x.letter(a < 0 ? LETTERS.charAt(draw(LETTERS.length())) : a);
      case 1: return x.town();
      case 2: return x.person(a, b);
      case 3: return x.minutes(a, b);
      case 4: return x.law(a);
      case 5: return x.ask(a);
      case 6: return x.day();
      case 7: return x.may(a);
      case 8: return x.run(a, b);
      case 9: return x.runOf(a, b);
      case 10: return x.ways(a);
      case 11: return x.soonest(a, b);
      case 12: return x.surest(a, b);
      case 13: return x.longest(a, b);
      case 14: return x.always(a);
      case 15: return x.took(a, b, c);
      case 16: return x.foe(a);
      case 17: return x.switching(a);
      case 18: return x.edge(a, b);
      case 19: return x.two(a, b, c);
      case 20: return x.tree(a, b);
      case 21: return x.days(a, b);
      case 22: return x.row(a);
      case 23: return x.judge();
      case 24: return x.image();
      case 25: return x.on();
      default: return x.count(a);
    }
  }
}
