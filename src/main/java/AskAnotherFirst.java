/**
 * A town of people who may ask each other, told in letters. Who is asked a thing must ask somebody
 * first who has not been asked yet to-day, and the answer comes back mended on its way. What each
 * call answers is told in ../shared/DOC.md as promises 1 to 28.
 */
public final class AskAnotherFirst {
  private static final int MOST_PERSONS = 8;
  private static final int MOST_LETTERS = 64;
  private static final int MOST_LETTER = 255;
  private static final int MOST_KNOWS = 100;
  private static final int MOST_MINUTES = 60;
  private static final int MOST_IN_ROW = 8;
  private static final int MOST_OF_ROW = 9;
  private static final int MOST_DAYS = 30;
  private static final int TREE_HANDS = 2;
  private static final int ALL_BUT_SIGN = 0x7fffffff;

  // The REFUSALS, and the answer where there is none such.
  private static final int NOBODY = -1;
  private static final int OTHER = -2;
  private static final int STATE = -3;
  private static final int BELOW = -4;
  private static final int ROOM = -6;
  private static final int NONE = -9;
  private static final int EDGE_REFUSED = 1000000000;

  private static final int FAULT_OF_FORM = -1000;
  private static final int FAULT_OF_SENSE = -2000;

  private static final int NO_ONE = -1;
  private static final int ANY_TIME = -1;
  private static final int UNHEARD = -1;

  // The LAWS; ONE is 0.
  private static final int LAW_KIN = 1;
  private static final int LAW_STOP = 2;
  private static final int LAW_EARLY = 3;
  private static final int LAW_BACK = 4;
  private static final int STOP_OTHERS = 3;
  private static final int EARLY_OTHERS = 6;

  // The KINDS by number, each in the order of its letters.
  private static final String ASKER_LETTERS = "nwslf";
  private static final String SAYER_LETTERS = "bomxd";
  private static final int ASKER_KINDS = 5;
  private static final int NEAR = 0;
  private static final int WISE = 1;
  private static final int SHORT = 2;
  private static final int LONG = 3;
  private static final int BETTER = 0;
  private static final int OWN = 1;
  private static final int MEEK = 2;
  private static final int WRONG = 3;

  private static final String STATEMENT_LETTERS = "pabl";
  private static final String DIGITS = "0123456789";

  // Which of all WAYS is the best.
  private static final int BY_SOONEST = 0;
  private static final int BY_SUREST = 1;
  private static final int BY_LONGEST = 2;

  private final Town town = new Town();
  private final Town pictured = new Town();
  private final Town inMind = new Town();
  private final Way way = new Way();
  private final AllWays allWays = new AllWays();
  private final Spread spread = new Spread();
  private final Letters letters = new Letters();
  private final int[] told = new int[MOST_IN_ROW];
  private final int[] refusals = new int[7];
  private int toldLength;
  private boolean hasPicture;

  public AskAnotherFirst() {
    toldLength = 0;
    hasPicture = false;
  }

  // ---- The town is told, and looked at.

  public int letter(int c) {
    if (c < 0) {
      return refuse(BELOW);
    }
    if (c > MOST_LETTER || letters.isFull()) {
      return refuse(ROOM);
    }
    return letters.put((char) c);
  }

  public int town() {
    inMind.become(town);
    int answer = letters.readInto(inMind);
    letters.forget();
    if (answer > 0) {
      town.become(inMind);
    }
    return answer;
  }

  public int person(int person, int what) {
    if (!town.has(person)) {
      return refuse(NOBODY);
    }
    switch (what) {
      case 0:
        return town.askers[person];
      case 1:
        return town.sayers[person];
      case 2:
        return town.knows[person];
      case 3:
        return town.kins[person];
      case 4:
        return town.wasAsked(person) ? 1 : 0;
      default:
        return refuse(OTHER);
    }
  }

  public int minutes(int one, int other) {
    if (!town.has(one) || !town.has(other)) {
      return refuse(NOBODY);
    }
    int by = town.minutesFrom(one, other);
    return by > 0 ? by : NONE;
  }

  public int law(int v) {
    if (v < 0 || v > LAW_BACK) {
      return refuse(OTHER);
    }
    int was = town.law;
    town.law = v;
    return was;
  }

  // ---- To-day.

  public int ask(int person) {
    int no = refusal(person, true, 0);
    if (no != 0) {
      return no;
    }
    town.follow(person, way);
    int right = town.rightOf(way);
    town.asked |= way.holders;
    town.time += town.timeOf(way);
    return right;
  }

  public int day() {
    town.asked = 0;
    town.time = 0;
    town.day++;
    return town.day;
  }

  public int may(int person) {
    int no = refusal(person, true, 0);
    if (no != 0) {
      return no;
    }
    return town.openTo(person, bit(person));
  }

  // ---- One RUN, in mind.

  public int run(int person, int what) {
    int no = refusal(person, what >= 0 && what <= 2, OTHER);
    if (no != 0) {
      return no;
    }
    town.follow(person, way);
    switch (what) {
      case 0:
        return town.timeOf(way);
      case 1:
        return town.rightOf(way);
      default:
        return way.length;
    }
  }

  public int runOf(int person, int i) {
    int no = refusal(person, i >= 0, BELOW);
    if (no != 0) {
      return no;
    }
    town.follow(person, way);
    return way.answerAt(i);
  }

  // ---- All WAYS, in mind.

  public int ways(int person) {
    int no = refusal(person, true, 0);
    if (no != 0) {
      return no;
    }
    exploreFrom(person, BY_SOONEST, ANY_TIME);
    return allWays.many;
  }

  public int soonest(int person, int i) {
    int no = refusal(person, i >= -1, BELOW);
    if (no != 0) {
      return no;
    }
    exploreFrom(person, BY_SOONEST, ANY_TIME);
    return i == -1 ? allWays.bestTime : allWays.best.answerAt(i);
  }

  public int surest(int person, int i) {
    int no = refusal(person, i >= -1, BELOW);
    if (no != 0) {
      return no;
    }
    exploreFrom(person, BY_SUREST, ANY_TIME);
    return i == -1 ? allWays.bestRight : allWays.best.answerAt(i);
  }

  public int longest(int person, int i) {
    int no = refusal(person, i >= -1, BELOW);
    if (no != 0) {
      return no;
    }
    exploreFrom(person, BY_LONGEST, ANY_TIME);
    return i == -1 ? allWays.best.length : allWays.best.answerAt(i);
  }

  public int always(int person) {
    int no = refusal(person, true, 0);
    if (no != 0) {
      return no;
    }
    exploreFrom(person, BY_SOONEST, ANY_TIME);
    return allWays.onAll;
  }

  public int took(int person, int time, int what) {
    int no = refusal(person, what == 0 || what == 1, OTHER);
    if (no != 0) {
      return no;
    }
    if (time < 0) {
      return refuse(BELOW);
    }
    exploreFrom(person, BY_SOONEST, time);
    return what == 0 ? allWays.many : allWays.onAll;
  }

  // ---- What would be, if something were otherwise.

  public int foe(int person) {
    int no = refusal(person, true, 0);
    if (no != 0) {
      return no;
    }
    town.follow(person, way);
    int least = town.rightOf(way);
    int found = NONE;
    for (int other = 0; other < town.persons; other++) {
      if (other != person) {
        inMind.become(town);
        inMind.setSayer(other, WRONG);
        int right = inMind.rightOf(way);
        if (right < least) {
          least = right;
          found = other;
        }
      }
    }
    return found;
  }

  public int switching(int person) {
    int no = refusal(person, true, 0);
    if (no != 0) {
      return no;
    }
    inMind.become(town);
    int most = -1;
    int found = 0;
    for (int kind = 0; kind < ASKER_KINDS; kind++) {
      inMind.setAsker(person, kind);
      inMind.follow(person, way);
      int right = inMind.rightOf(way);
      if (right > most) {
        most = right;
        found = kind;
      }
    }
    return found;
  }

  public int edge(int person, int end) {
    if (!town.has(person) || !town.has(end) || person == end) {
      return EDGE_REFUSED - refuse(NOBODY);
    }
    if (town.wasAsked(person)) {
      return EDGE_REFUSED - refuse(STATE);
    }
    town.follow(person, way);
    int now = town.timeOf(way);
    inMind.become(town);
    inMind.silence(end);
    inMind.follow(person, way);
    return now - inMind.timeOf(way);
  }

  public int two(int one, int other, int what) {
    if (!town.has(one) || !town.has(other) || one == other) {
      return refuse(NOBODY);
    }
    if (what != 0 && what != 1) {
      return refuse(OTHER);
    }
    if (town.wasAsked(one) || town.wasAsked(other)) {
      return refuse(STATE);
    }
    int asTold = rightTogether(one, other);
    int turned = rightTogether(other, one);
    if (what == 0) {
      return Math.max(asTold, turned);
    }
    return turned > asTold ? 1 : 0;
  }

  public int tree(int person, int what) {
    int no = refusal(person, what >= 0 && what <= 2, OTHER);
    if (no != 0) {
      return no;
    }
    spread.holders = 0;
    spread.minutes = 0;
    int right = spreadFrom(town, spread, person, 0);
    switch (what) {
      case 0:
        return Integer.bitCount(spread.holders);
      case 1:
        return 2 * spread.minutes;
      default:
        return right;
    }
  }

  public int days(int n, int z) {
    if (n < 1) {
      return refuse(BELOW);
    }
    if (n > MOST_DAYS) {
      return refuse(ROOM);
    }
    if (town.persons < 1) {
      return refuse(STATE);
    }
    inMind.become(town);
    inMind.asked = 0;
    int seed = z;
    int together = 0;
    for (int done = 0; done < n; done++) {
      seed = seed * 1664525 + 1013904223;
      int first = (seed & ALL_BUT_SIGN) / 256 % inMind.persons;
      inMind.follow(first, way);
      together += inMind.rightOf(way);
    }
    return together;
  }

  // ---- A told ROW.

  public int row(int v) {
    if (v < 0) {
      return refuse(BELOW);
    }
    if (v > MOST_OF_ROW || toldLength >= MOST_IN_ROW) {
      return refuse(ROOM);
    }
    told[toldLength] = v;
    toldLength++;
    return toldLength;
  }

  public int judge() {
    if (toldLength == 0) {
      return refuse(STATE);
    }
    int answer = judged();
    toldLength = 0;
    return answer;
  }

  // ---- The image, and what is counted.

  public int image() {
    pictured.become(town);
    hasPicture = true;
    return town.persons;
  }

  public int on() {
    if (!hasPicture) {
      return refuse(STATE);
    }
    town.become(pictured);
    return town.persons;
  }

  public int count(int what) {
    switch (what) {
      case 0:
        return town.persons;
      case 1:
        return town.minutesTold();
      case 2:
        return Integer.bitCount(town.asked);
      case 3:
        return town.time;
      case 4:
        return town.day;
      case 5:
        return town.law;
      case 6:
        return toldLength;
      case 7:
        return letters.length;
      default:
        return what >= 11 && what <= 16 ? refusals[what - 10] : NONE;
    }
  }

  // ---- What the calls share.

  private static int bit(int person) {
    return 1 << person;
  }

  private static boolean holds(int bits, int person) {
    return (bits & bit(person)) != 0;
  }

  /** Counts a REFUSAL, and answers it. */
  private int refuse(int number) {
    int at = -number;
    if (at >= 0 && at < refusals.length) {
      refusals[at]++;
    }
    return number;
  }

  /**
   * Of a PERSON who is to be asked first: the first REFUSAL that fits (and counts it), or 0. The
   * promises tell the one of the other argument between NOBODY and STATE.
   */
  private int refusal(int person, boolean otherFits, int otherwise) {
    if (!town.has(person)) {
      return refuse(NOBODY);
    }
    if (!otherFits) {
      return refuse(otherwise);
    }
    return town.wasAsked(person) ? refuse(STATE) : 0;
  }

  private void exploreFrom(int person, int order, int time) {
    allWays.begin(order, time);
    explore(town, allWays, person, 0);
  }

  /** Goes on to everybody in the order of PERSONS, so that of like WAYS the first comes first. */
  private static void explore(Town town, AllWays all, int holder, int depth) {
    if (depth >= MOST_PERSONS) {
      return;
    }
    all.now.add(holder);
    int open = town.openTo(holder, all.now.holders);
    if (open == 0) {
      all.take(town);
    }
    for (int next = 0; next < MOST_PERSONS; next++) {
      if (holds(open, next)) {
        explore(town, all, next, depth + 1);
      }
    }
    all.now.dropLast();
  }

  /** RIGHT of what the holder says when all that he passed on has come back. */
  private static int spreadFrom(Town town, Spread all, int holder, int depth) {
    all.holders |= bit(holder);
    int heard = UNHEARD;
    boolean more = depth < MOST_PERSONS;
    for (int hand = 0; hand < TREE_HANDS && more; hand++) {
      int next = town.nextOf(holder, all.holders);
      more = next != NO_ONE;
      if (more) {
        all.minutes += town.minutesFrom(holder, next);
        heard = Math.max(heard, spreadFrom(town, all, next, depth + 1));
      }
    }
    return town.said(holder, heard);
  }

  /** RIGHT of both together, the second adding nothing if the first question came to him. */
  private int rightTogether(int first, int second) {
    inMind.become(town);
    inMind.follow(first, way);
    int together = inMind.rightOf(way);
    inMind.asked |= way.holders;
    if (!inMind.wasAsked(second)) {
      inMind.follow(second, way);
      together += inMind.rightOf(way);
    }
    return together;
  }

  /** The place in the ROW of the first who is amiss; how many there are, if it could go on. */
  private int judged() {
    int open = 0;
    way.clear();
    for (int i = 0; i < toldLength && i < told.length; i++) {
      int person = told[i];
      if (!town.has(person) || town.wasAsked(person) || i > 0 && !holds(open, person)) {
        return i;
      }
      way.add(person);
      open = town.openTo(person, way.holders);
    }
    return open != 0 ? toldLength : NONE;
  }

  /** PERSONS one after the other, as a question came to them. */
  private static final class Way {
    private final int[] persons = new int[MOST_PERSONS];
    private int length;
    private int holders;

    void clear() {
      length = 0;
      holders = 0;
    }

    void add(int person) {
      if (length < MOST_PERSONS) {
        persons[length] = person;
        length++;
        holders |= bit(person);
      }
    }

    void dropLast() {
      if (length > 0) {
        length--;
        holders &= ~bit(persons[length]);
      }
    }

    int answerAt(int i) {
      return i >= 0 && i < length ? persons[i] : NONE;
    }

    void become(Way other) {
      System.arraycopy(other.persons, 0, persons, 0, MOST_PERSONS);
      length = other.length;
      holders = other.holders;
    }
  }

  /** What is found out of all WAYS from one PERSON, or of those with a told TIME. */
  private static final class AllWays {
    private final Way now = new Way();
    private final Way best = new Way();
    private int order;
    private int wantedTime;
    private int many;
    private int onAll;
    private int bestTime;
    private int bestRight;

    void begin(int byOrder, int time) {
      order = byOrder;
      wantedTime = time;
      many = 0;
      onAll = 0;
      now.clear();
      best.clear();
    }

    /** The WAY of now has come to its end. */
    void take(Town town) {
      int time = town.timeOf(now);
      if (wantedTime != ANY_TIME && time != wantedTime) {
        return;
      }
      int right = town.rightOf(now);
      onAll = many == 0 ? now.holders : onAll & now.holders;
      if (many == 0 || isBetter(time, right)) {
        best.become(now);
        bestTime = time;
        bestRight = right;
      }
      many++;
    }

    private boolean isBetter(int time, int right) {
      if (order == BY_SOONEST) {
        return time < bestTime;
      }
      if (order == BY_SUREST) {
        return right > bestRight || right == bestRight && time < bestTime;
      }
      return now.length > best.length || now.length == best.length && time > bestTime;
    }
  }

  /** Who has the question of a TREE, and the MINUTES of it one way. */
  private static final class Spread {
    private int holders;
    private int minutes;
  }

  /** All that an image keeps; also what is thought of in mind, without the town being changed. */
  private static final class Town {
    private final int[] askers = new int[MOST_PERSONS];
    private final int[] sayers = new int[MOST_PERSONS];
    private final int[] knows = new int[MOST_PERSONS];
    private final int[] kins = new int[MOST_PERSONS];
    // Bits of PERSONS: the others of one's KIN; whom one may ask by MINUTES; who may ask one so.
    private final int[] mates = new int[MOST_PERSONS];
    private final int[] reach = new int[MOST_PERSONS];
    private final int[] back = new int[MOST_PERSONS];
    private final int[] minutes = new int[MOST_PERSONS * MOST_PERSONS];
    private int persons;
    private int law;
    private int asked;
    private int time;
    private int day;

    void become(Town other) {
      System.arraycopy(other.askers, 0, askers, 0, MOST_PERSONS);
      System.arraycopy(other.sayers, 0, sayers, 0, MOST_PERSONS);
      System.arraycopy(other.knows, 0, knows, 0, MOST_PERSONS);
      System.arraycopy(other.kins, 0, kins, 0, MOST_PERSONS);
      System.arraycopy(other.mates, 0, mates, 0, MOST_PERSONS);
      System.arraycopy(other.reach, 0, reach, 0, MOST_PERSONS);
      System.arraycopy(other.back, 0, back, 0, MOST_PERSONS);
      System.arraycopy(other.minutes, 0, minutes, 0, MOST_PERSONS * MOST_PERSONS);
      persons = other.persons;
      law = other.law;
      asked = other.asked;
      time = other.time;
      day = other.day;
    }

    boolean has(int person) {
      return person >= 0 && person < persons && person < MOST_PERSONS;
    }

    boolean wasAsked(int person) {
      return has(person) && holds(asked, person);
    }

    int minutesFrom(int one, int other) {
      return has(one) && has(other) ? minutes[one * MOST_PERSONS + other] : 0;
    }

    int minutesTold() {
      int many = 0;
      for (int one = 0; one < MOST_PERSONS; one++) {
        many += Integer.bitCount(reach[one]);
      }
      return many;
    }

    /** Whether there is room for him and he is as he must be; then he comes. */
    boolean addPerson(int asker, int sayer, int knowing, int kin) {
      if (persons >= MOST_PERSONS || knowing > MOST_KNOWS) {
        return false;
      }
      int newcomer = persons;
      askers[newcomer] = asker;
      sayers[newcomer] = sayer;
      knows[newcomer] = knowing;
      kins[newcomer] = kin;
      for (int other = 0; other < newcomer; other++) {
        if (kin > 0 && kins[other] == kin) {
          mates[other] |= bit(newcomer);
          mates[newcomer] |= bit(other);
        }
      }
      persons++;
      return true;
    }

    /** Whether the MINUTES are as they must be; then they come. */
    boolean addMinutes(int one, int other, int by, boolean both) {
      if (!has(one) || !has(other) || one == other || by < 1 || by > MOST_MINUTES) {
        return false;
      }
      minutes[one * MOST_PERSONS + other] = by;
      reach[one] |= bit(other);
      back[other] |= bit(one);
      if (both) {
        minutes[other * MOST_PERSONS + one] = by;
        reach[other] |= bit(one);
        back[one] |= bit(other);
      }
      return true;
    }

    boolean setLaw(int number) {
      if (number < 0 || number > LAW_BACK) {
        return false;
      }
      law = number;
      return true;
    }

    void setAsker(int person, int kind) {
      if (has(person)) {
        askers[person] = kind;
      }
    }

    void setSayer(int person, int kind) {
      if (has(person)) {
        sayers[person] = kind;
      }
    }

    /** He can pass nothing on; that others ask him, and he them by MINUTES, stays as it is. */
    void silence(int person) {
      if (has(person)) {
        reach[person] = 0;
      }
    }

    /** To whom the holder MAY pass on a question that the holders hold (bits). */
    int openTo(int holder, int holders) {
      if (!has(holder) || isStopped(Integer.bitCount(holders) - 1)) {
        return 0;
      }
      int gone = asked | holders;
      int open = reach[holder] & ~gone;
      if (law == LAW_BACK) {
        open &= back[holder];
      }
      if (law == LAW_KIN || law == LAW_BACK) {
        open = withoutMatesOf(gone, open);
      }
      return open;
    }

    private boolean isStopped(int others) {
      return law == LAW_STOP && others >= STOP_OTHERS
          || law == LAW_EARLY && others >= EARLY_OTHERS;
    }

    private int withoutMatesOf(int gone, int open) {
      int left = open;
      for (int person = 0; person < MOST_PERSONS; person++) {
        if ((mates[person] & gone) != 0) {
          left &= ~(1 << person);
        }
      }
      return left;
    }

    /** Whom the holder passes it on to by his KIND of ASKER; NO_ONE if he MAY none. */
    int nextOf(int holder, int holders) {
      int open = openTo(holder, holders);
      int best = NO_ONE;
      int bestRank = 0;
      for (int person = 0; person < MOST_PERSONS; person++) {
        if (holds(open, person)) {
          int rank = rankOf(holder, person, holders);
          if (best == NO_ONE || rank < bestRank) {
            best = person;
            bestRank = rank;
          }
        }
      }
      return best;
    }

    /** The less, the rather the holder passes it on to him. */
    private int rankOf(int holder, int person, int holders) {
      if (!has(holder) || !has(person)) {
        return 0;
      }
      int kind = askers[holder];
      int near = minutesFrom(holder, person);
      if (kind == NEAR) {
        return near;
      }
      if (kind == WISE) {
        return -knows[person];
      }
      if (kind != SHORT && kind != LONG) {
        return 0;
      }
      int room = Integer.bitCount(openTo(person, holders | bit(person)));
      // MINUTES stay below the step, so that they part only those who have like room behind them.
      int step = MOST_MINUTES + 1;
      return (kind == SHORT ? step * room : -step * room) + near;
    }

    /** The WAY becomes that of a question which comes to the first and goes by ASKERS. */
    void follow(int first, Way way) {
      way.clear();
      int holder = first;
      for (int step = 0; step < MOST_PERSONS && holder != NO_ONE; step++) {
        way.add(holder);
        holder = nextOf(holder, way.holders);
      }
    }

    int timeOf(Way way) {
      int there = 0;
      for (int i = 1; i < way.length && i < MOST_PERSONS; i++) {
        there += minutesFrom(way.persons[i - 1], way.persons[i]);
      }
      return 2 * there;
    }

    int rightOf(Way way) {
      int heard = UNHEARD;
      for (int i = way.length - 1; i >= 0; i--) {
        heard = said(way.answerAt(i), heard);
      }
      return heard;
    }

    /** What he SAYS who has heard this, or as the last, UNHEARD. */
    int said(int person, int heard) {
      if (!has(person)) {
        return heard;
      }
      int own = knows[person];
      int kind = sayers[person];
      if (heard == UNHEARD) {
        return kind == WRONG ? MOST_KNOWS - own : own;
      }
      switch (kind) {
        case BETTER:
          return Math.max(own, heard);
        case OWN:
          return own;
        case MEEK:
          return heard;
        case WRONG:
          return MOST_KNOWS - heard;
        default:
          return (own + heard) / 2;
      }
    }
  }

  /** The letters that have come, and how STATEMENTS are read from them. */
  private static final class Letters {
    private final char[] signs = new char[MOST_LETTERS];
    private int length;
    private int place;
    // No TOWN can go on with what stands at the place.
    private boolean stuck;

    boolean isFull() {
      return length >= MOST_LETTERS;
    }

    int put(char sign) {
      if (length < MOST_LETTERS) {
        signs[length] = sign;
        length++;
      }
      return length;
    }

    void forget() {
      length = 0;
    }

    /**
     * How many STATEMENTS there are, or the FAULT. The draft holds them all only if there is no
     * FAULT: one of form is looked for in the whole text before one of sense counts.
     */
    int readInto(Town draft) {
      place = 0;
      stuck = false;
      int firstUnfit = -1;
      int statements = 0;
      do {
        int start = place;
        boolean fits = readStatement(draft);
        if (!fits && firstUnfit < 0) {
          firstUnfit = start;
        }
        statements++;
      } while (!stuck && place < length && statements < MOST_LETTERS);
      if (stuck) {
        return FAULT_OF_FORM - place;
      }
      return firstUnfit >= 0 ? FAULT_OF_SENSE - firstUnfit : statements;
    }

    /** Whether the STATEMENT is as it must be; then the draft has it. */
    private boolean readStatement(Town draft) {
      switch (oneOf(STATEMENT_LETTERS)) {
        case 0:
          return readPerson(draft);
        case 1:
          return readMinutes(draft, false);
        case 2:
          return readMinutes(draft, true);
        case 3:
          return readLaw(draft);
        default:
          return false;
      }
    }

    private boolean readPerson(Town draft) {
      int asker = oneOf(ASKER_LETTERS);
      int sayer = oneOf(SAYER_LETTERS);
      int knowing = number(3);
      oneOf(",");
      int kin = number(1);
      oneOf(";");
      return !stuck && draft.addPerson(asker, sayer, knowing, kin);
    }

    private boolean readMinutes(Town draft, boolean both) {
      int one = number(1);
      int other = number(1);
      oneOf(",");
      int by = number(2);
      oneOf(";");
      return !stuck && draft.addMinutes(one, other, by, both);
    }

    private boolean readLaw(Town draft) {
      int number = number(1);
      oneOf(";");
      return !stuck && draft.setLaw(number);
    }

    /** A number of at least one digit and of so many at most. */
    private int number(int mostDigits) {
      int value = oneOf(DIGITS);
      for (int digits = 1; digits < mostDigits && indexIn(DIGITS) >= 0; digits++) {
        value = value * 10 + oneOf(DIGITS);
      }
      return value;
    }

    /** Goes behind the next letter, and answers which of these it is; else it is stuck. */
    private int oneOf(String allowed) {
      int index = indexIn(allowed);
      if (index < 0) {
        stuck = true;
      } else {
        place++;
      }
      return index;
    }

    /** Which of these the next letter is; -1 none, or behind what no TOWN can go on with. */
    private int indexIn(String allowed) {
      if (stuck || place < 0 || place >= length || place >= MOST_LETTERS) {
        return -1;
      }
      return allowed.indexOf(signs[place]);
    }
  }
}
