import java.util.ArrayList;
import java.util.Arrays;
import java.util.Comparator;
import java.util.List;
import java.util.regex.Matcher;
import java.util.regex.Pattern;

/**
 * The document once more, written from its words in another way than the program (lists, sorting,
 * patterns, every set of things made anew), so that a slip in one of the two shows.
 */
final class Oracle {
  private static final String STATEMENT = "(p[nwslf][bomxd][0-9]{1,3},[0-9];|[ab][0-9]{2},[0-9]{1,2};|l[0-9];)";
  private static final Pattern TOWN = Pattern.compile(STATEMENT + "+");
  private static final Pattern NEXT = Pattern.compile(STATEMENT);

  private record Person(char asker, char sayer, int knows, int kin) {}

  private static final class Town {
    List<Person> people = new ArrayList<>();
    Integer[][] minutes = new Integer[8][8];
    int law, time, day;
    List<Integer> asked = new ArrayList<>();

    Town copy() {
      Town t = new Town();
      t.people.addAll(people);
      for (int i = 0; i < 8; i++) {
        t.minutes[i] = minutes[i].clone();
      }
      t.law = law;
      t.time = time;
      t.day = day;
      t.asked.addAll(asked);
      return t;
    }

    void kinds(int p, char asker, char sayer) {
      Person was = people.get(p);
      people.set(p, new Person(asker, sayer, was.knows, was.kin));
    }
  }

  private Town town = new Town();
  private Town image = null;
  private String text = "";
  private final List<Integer> row = new ArrayList<>();
  private final int[] refused = new int[7];
  private int silent = -1;

  private int no(int number) {
    refused[-number]++;
    return number;
  }

  int letter(int c) {
    if (c < 0) return no(-4);
    if (c > 255 || text.length() == 64) return no(-6);
    text += (char) c;
    return text.length();
  }

  int town() {
    String all = text;
    text = "";
    for (int n = 1; n <= all.length(); n++) {
      Matcher m = TOWN.matcher(all.substring(0, n));
      if (!m.matches() && !m.hitEnd()) return -1000 - (n - 1);
    }
    if (!TOWN.matcher(all).matches()) return -1000 - all.length();
    Town draft = town.copy();
    Matcher m = NEXT.matcher(all);
    int many = 0;
    while (m.find()) {
      if (!tell(draft, m.group())) return -2000 - m.start();
      many++;
    }
    town = draft;
    return many;
  }

  private static boolean tell(Town t, String s) {
    String[] halves = s.substring(1, s.length() - 1).split(",");
    if (s.charAt(0) == 'l') {
      t.law = Integer.parseInt(halves[0]);
      return t.law <= 4;
    }
    if (s.charAt(0) == 'p') {
      int knows = Integer.parseInt(halves[0].substring(2));
      t.people.add(new Person(s.charAt(1), s.charAt(2), knows, Integer.parseInt(halves[1])));
      return knows <= 100 && t.people.size() <= 8;
    }
    int one = s.charAt(1) - '0';
    int other = s.charAt(2) - '0';
    int by = Integer.parseInt(halves[1]);
    if (one >= t.people.size() || other >= t.people.size() || one == other || by < 1 || by > 60) return false;
    t.minutes[one][other] = by;
    if (s.charAt(0) == 'b') t.minutes[other][one] = by;
    return true;
  }

  private boolean is(int p) {
    return p >= 0 && p < town.people.size();
  }

  int person(int p, int what) {
    if (!is(p)) return no(-1);
    Person who = town.people.get(p);
    return switch (what) {
      case 0 -> List.of('n', 'w', 's', 'l', 'f').indexOf(who.asker);
      case 1 -> List.of('b', 'o', 'm', 'x', 'd').indexOf(who.sayer);
      case 2 -> who.knows;
      case 3 -> who.kin;
      case 4 -> town.asked.contains(p) ? 1 : 0;
      default -> no(-2);
    };
  }

  int minutes(int one, int other) {
    if (!is(one) || !is(other)) return no(-1);
    return town.minutes[one][other] == null ? -9 : town.minutes[one][other];
  }

  int law(int v) {
    if (v < 0 || v > 4) return no(-2);
    int was = town.law;
    town.law = v;
    return was;
  }

  /** To whom the holder, one of those who hold it, MAY pass it on. */
  private List<Integer> may(Town t, List<Integer> holders, int holder) {
    List<Integer> all = new ArrayList<>();
    int most = t.law == 2 ? 3 : t.law == 3 ? 6 : 99;
    if (holder == silent || holders.size() > most) return all;
    List<Integer> gone = new ArrayList<>(t.asked);
    gone.addAll(holders);
    for (int p = 0; p < t.people.size(); p++) {
      boolean fits = t.minutes[holder][p] != null && !gone.contains(p);
      if (t.law == 1 || t.law == 4) {
        int kin = t.people.get(p).kin;
        for (int q : gone) {
          fits &= kin == 0 || t.people.get(q).kin != kin;
        }
      }
      if (t.law == 4) fits &= t.minutes[p][holder] != null;
      if (fits) all.add(p);
    }
    return all;
  }

  private static List<Integer> with(List<Integer> list, int p) {
    List<Integer> more = new ArrayList<>(list);
    more.add(p);
    return more;
  }

  private int next(Town t, List<Integer> holders, int holder) {
    Comparator<Integer> near = Comparator.comparing(p -> t.minutes[holder][p]);
    Comparator<Integer> room = Comparator.comparing(p -> may(t, with(holders, p), p).size());
    Comparator<Integer> knows = Comparator.comparing(p -> t.people.get(p).knows);
    Comparator<Integer> least = Comparator.naturalOrder();
    Comparator<Integer> by = switch (t.people.get(holder).asker) {
      case 'n' -> near.thenComparing(least);
      case 'w' -> knows.reversed().thenComparing(least);
      case 's' -> room.thenComparing(near).thenComparing(least);
      case 'l' -> room.reversed().thenComparing(near).thenComparing(least);
      default -> least;
    };
    return may(t, holders, holder).stream().min(by).orElse(-1);
  }

  private List<Integer> run(Town t, int first) {
    List<Integer> way = new ArrayList<>(List.of(first));
    int next = next(t, way, first);
    while (next >= 0) {
      way.add(next);
      next = next(t, way, next);
    }
    return way;
  }

  private static int time(Town t, List<Integer> way) {
    int time = 0;
    for (int i = 0; i + 1 < way.size(); i++) {
      time += t.minutes[way.get(i)][way.get(i + 1)] + t.minutes[way.get(i)][way.get(i + 1)];
    }
    return time;
  }

  private static int says(Person p, List<Integer> heard) {
    if (heard.isEmpty()) return p.sayer == 'x' ? 100 - p.knows : p.knows;
    int h = java.util.Collections.max(heard);
    return switch (p.sayer) {
      case 'b' -> h > p.knows ? h : p.knows;
      case 'o' -> p.knows;
      case 'm' -> h;
      case 'x' -> 100 - h;
      default -> Math.floorDiv(p.knows + h, 2);
    };
  }

  private static int right(Town t, List<Integer> way) {
    Person first = t.people.get(way.get(0));
    if (way.size() == 1) return says(first, List.of());
    return says(first, List.of(right(t, way.subList(1, way.size()))));
  }

  private static int bits(Iterable<Integer> all) {
    int bits = 0;
    for (int p : all) {
      bits |= 1 << p;
    }
    return bits;
  }

  private int amiss(int p, boolean fits, int number) {
    if (!is(p)) return no(-1);
    if (!fits) return no(number);
    return town.asked.contains(p) ? no(-3) : 0;
  }

  int ask(int p) {
    int no = amiss(p, true, 0);
    if (no < 0) return no;
    List<Integer> way = run(town, p);
    town.asked.addAll(way);
    town.time += time(town, way);
    return right(town, way);
  }

  int day() {
    town.asked.clear();
    town.time = 0;
    return ++town.day;
  }

  int may(int p) {
    int no = amiss(p, true, 0);
    return no < 0 ? no : bits(may(town, List.of(p), p));
  }

  int run(int p, int what) {
    int no = amiss(p, what >= 0 && what < 3, -2);
    if (no < 0) return no;
    List<Integer> way = run(town, p);
    return what == 0 ? time(town, way) : what == 1 ? right(town, way) : way.size();
  }

  private static int at(List<Integer> way, int i) {
    return i < way.size() ? way.get(i) : -9;
  }

  int runOf(int p, int i) {
    int no = amiss(p, i >= 0, -4);
    return no < 0 ? no : at(run(town, p), i);
  }

  private List<List<Integer>> allWays(List<Integer> way) {
    List<List<Integer>> all = new ArrayList<>();
    for (int p : may(town, way, way.get(way.size() - 1))) {
      all.addAll(allWays(with(way, p)));
    }
    return all.isEmpty() ? List.of(way) : all;
  }

  int ways(int p) {
    int no = amiss(p, true, 0);
    return no < 0 ? no : allWays(List.of(p)).size();
  }

  private List<Integer> least(int p, Comparator<List<Integer>> by) {
    Comparator<List<Integer>> first = Comparator.comparing(w -> {
      String s = "";
      for (int q : w) {
        s += q;
      }
      return s;
    });
    return allWays(List.of(p)).stream().min(by.thenComparing(first)).get();
  }

  int soonest(int p, int i) {
    int no = amiss(p, i >= -1, -4);
    if (no < 0) return no;
    List<Integer> way = least(p, Comparator.comparing(w -> time(town, w)));
    return i < 0 ? time(town, way) : at(way, i);
  }

  int surest(int p, int i) {
    int no = amiss(p, i >= -1, -4);
    if (no < 0) return no;
    Comparator<List<Integer>> by = Comparator.comparing(w -> -right(town, w));
    List<Integer> way = least(p, by.thenComparing(w -> time(town, w)));
    return i < 0 ? right(town, way) : at(way, i);
  }

  int longest(int p, int i) {
    int no = amiss(p, i >= -1, -4);
    if (no < 0) return no;
    Comparator<List<Integer>> by = Comparator.comparing(w -> -w.size());
    List<Integer> way = least(p, by.thenComparing(w -> -time(town, w)));
    return i < 0 ? way.size() : at(way, i);
  }

  private int onAll(List<List<Integer>> ways) {
    int bits = ways.isEmpty() ? 0 : 255;
    for (List<Integer> way : ways) {
      bits &= bits(way);
    }
    return bits;
  }

  int always(int p) {
    int no = amiss(p, true, 0);
    return no < 0 ? no : onAll(allWays(List.of(p)));
  }

  int took(int p, int time, int what) {
    int no = amiss(p, what == 0 || what == 1, -2);
    if (no < 0) return no;
    if (time < 0) return no(-4);
    List<List<Integer>> ways = allWays(List.of(p)).stream().filter(w -> time(town, w) == time).toList();
    return what == 0 ? ways.size() : onAll(ways);
  }

  int foe(int p) {
    int no = amiss(p, true, 0);
    if (no < 0) return no;
    int now = run(p, 1);
    int least = 999;
    int who = -9;
    for (int q = town.people.size() - 1; q >= 0; q--) {
      if (q == p) continue;
      Town t = town.copy();
      t.kinds(q, t.people.get(q).asker, 'x');
      int right = right(t, run(t, p));
      if (right <= least) {
        least = right;
        who = q;
      }
    }
    return least < now ? who : -9;
  }

  int switching(int p) {
    int no = amiss(p, true, 0);
    if (no < 0) return no;
    int[] rights = new int[5];
    for (int k = 0; k < 5; k++) {
      Town t = town.copy();
      t.kinds(p, "nwslf".charAt(k), t.people.get(p).sayer);
      rights[k] = right(t, run(t, p));
    }
    int most = Arrays.stream(rights).max().getAsInt();
    int k = 0;
    while (rights[k] != most) {
      k++;
    }
    return k;
  }

  int edge(int p, int end) {
    if (!is(p) || !is(end) || p == end) return 1000000000 - no(-1);
    if (town.asked.contains(p)) return 1000000000 - no(-3);
    int now = run(p, 0);
    silent = end;
    int then = run(p, 0);
    silent = -1;
    return now - then;
  }

  private int both(int one, int other) {
    Town was = town;
    town = town.copy();
    int right = right(town, run(town, one));
    town.asked.addAll(run(town, one));
    if (!town.asked.contains(other)) right += right(town, run(town, other));
    town = was;
    return right;
  }

  int two(int one, int other, int what) {
    if (!is(one) || !is(other) || one == other) return no(-1);
    if (what < 0 || what > 1) return no(-2);
    if (town.asked.contains(one) || town.asked.contains(other)) return no(-3);
    int a = both(one, other);
    int b = both(other, one);
    return what == 1 ? (a >= b ? 0 : 1) : Math.max(a, b);
  }

  private int treeMinutes;

  private int tree(List<Integer> holders, int p) {
    holders.add(p);
    List<Integer> heard = new ArrayList<>();
    int next = next(town, holders, p);
    while (next >= 0 && heard.size() < 2) {
      treeMinutes += town.minutes[p][next];
      heard.add(tree(holders, next));
      next = next(town, holders, p);
    }
    return says(town.people.get(p), heard);
  }

  int tree(int p, int what) {
    int no = amiss(p, what >= 0 && what < 3, -2);
    if (no < 0) return no;
    List<Integer> holders = new ArrayList<>();
    treeMinutes = 0;
    int right = tree(holders, p);
    return what == 0 ? holders.size() : what == 1 ? treeMinutes * 2 : right;
  }

  int days(int n, int z) {
    if (n < 1) return no(-4);
    if (n > 30) return no(-6);
    if (town.people.isEmpty()) return no(-3);
    Town t = town.copy();
    t.asked.clear();
    int all = 0;
    long seed = z;
    for (int i = 0; i < n; i++) {
      seed = Math.floorMod(seed * 1664525L + 1013904223L, 4294967296L);
      all += right(t, run(t, (int) (seed % 2147483648L / 256 % t.people.size())));
    }
    return all;
  }

  int row(int v) {
    if (v < 0) return no(-4);
    if (v > 9 || row.size() == 8) return no(-6);
    row.add(v);
    return row.size();
  }

  int judge() {
    if (row.isEmpty()) return no(-3);
    List<Integer> told = new ArrayList<>(row);
    row.clear();
    for (int i = 0; i < told.size(); i++) {
      int p = told.get(i);
      if (!is(p) || town.asked.contains(p)) return i;
      if (i > 0 && !may(town, told.subList(0, i), told.get(i - 1)).contains(p)) return i;
    }
    return may(town, told, told.get(told.size() - 1)).isEmpty() ? -9 : told.size();
  }

  int image() {
    image = town.copy();
    return image.people.size();
  }

  int on() {
    if (image == null) return no(-3);
    town = image.copy();
    return town.people.size();
  }

  int count(int what) {
    int told = 0;
    for (Integer[] line : town.minutes) {
      for (Integer by : line) {
        told += by == null ? 0 : 1;
      }
    }
    int[] all = {town.people.size(), told, town.asked.size(), town.time, town.day, town.law, row.size(), text.length()};
    if (what >= 0 && what < 8) return all[what];
    return what > 10 && what < 17 ? refused[what - 10] : -9;
  }
}
