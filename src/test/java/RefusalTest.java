import java.util.ArrayList;
import java.util.Arrays;
import java.util.HashSet;
import java.util.List;
import java.util.Set;

/**
 * Each call with the least and the greatest number that is taken and those beside them, all with all, in several states:
 * which refusal it answers (of two that fit the first that its promise tells), that it is counted once, and that nothing
 * else is changed; that nothing is counted where it is not refused, and nothing changed where it only asks; and that
 * what is asked is told alike, whatever was asked ahead of it.
 */
public final class RefusalTest {
  private static final int LEAST = Integer.MIN_VALUE;
  private static final int MOST = Integer.MAX_VALUE;
  private static final int[] PART = beside(0, 1);

  /** The calls that only ask. */
  private static final Set<String> ASKING = new HashSet<>(List.of("runner", "order", "likely", "ordered", "close", "sure", "even",
      "starts", "load", "on", "settles", "best", "pays", "worth", "same", "teams", "longer", "fits", "let", "seeds", "bags",
      "ahead", "cup", "bracket", "league", "ranks", "hold", "legs", "bet", "bets", "tried", "had", "past", "count"));

  private static final String[] CALLS = {"feed", "lane", "runner", "start", "kind", "set", "run", "order", "likely", "ordered",
      "close", "sure", "even", "starts", "load", "on", "settles", "best", "pays", "worth", "same", "teams", "longer", "fits", "let",
      "row", "judge", "clear", "seeds", "back", "bag", "empty", "bags", "ahead", "cup", "bracket", "league", "ranks", "hold",
      "legs", "bet", "bets", "habit", "forget", "tried", "had", "time", "past", "wipe", "image", "restore", "count"};

  /** A state, and what of it refusals hang on. */
  private record Scene(String name, Noted x, int n, boolean week999, boolean full, boolean runs, boolean image, boolean odds) {
  }

  private static int wrong = 0;
  private static int looked = 0;
  private static int refused = 0;

  public static void main(String[] args) {
    List<Scene> scenes = List.of(nothing(), nobodyAndFull(), one(), two(), three(), four(), fourAndFull());
    for (Scene s : scenes) {
      String state = s.x.state();
      String counted = s.x.refusals();
      for (String name : CALLS) {
        for (int[] a : all(name, s)) look(s, name, a, state, counted);
      }
      inAnyOrder(s);
    }
    System.out.println(looked + " calls looked at, " + refused + " of them refused, " + wrong + " not as due");
    if (wrong != 0) System.exit(1);
  }

  private static Scene nothing() {
    return new Scene("nothing", new Noted(), 0, false, false, false, false, false);
  }

  private static Scene nobodyAndFull() {
    Noted x = new Noted();
    fill(x, true);
    x.set(3, 999);
    x.image();
    return new Scene("nobody, all full", x, 0, true, true, false, true, false);
  }

  private static Scene one() {
    Noted x = Noted.with("r34150510;m23;");
    x.run();
    x.row(9);
    return new Scene("one", x, 1, false, false, true, false, true);
  }

  private static Scene two() {
    Noted x = Noted.with("r17150510;r52160320;m32;");
    some(x);
    x.image();
    x.start(1, 12);
    x.bag(1);
    x.run();
    x.rows(1, 0);
    return new Scene("two", x, 2, false, false, true, true, false);
  }

  private static Scene three() {
    Noted x = Noted.with("r26150510;r52160320;r41141200;m43;");
    some(x);
    x.rows(3, 9, 1);
    return new Scene("three", x, 3, false, false, false, false, true);
  }

  private static Scene four() {
    Noted x = Noted.with("r26150510;r52160320;r41141200;r10171030;m13;");
    x.image();
    some(x);
    for (int k = 0; k < 7; k++) x.run();
    x.rows(1, 9, 4, 10);
    return new Scene("four", x, 4, false, false, true, true, false);
  }

  private static Scene fourAndFull() {
    Noted x = Noted.with("r26150510;r52160320;r41141200;r10171030;m13;");
    fill(x, false);
    x.set(3, 993);
    for (int k = 0; k < 6; k++) x.run();
    return new Scene("four, all full", x, 4, true, true, true, false, false);
  }

  private static void some(Noted x) {
    for (char letter : "s015;g;".toCharArray()) x.feed(letter);
    x.bag(7);
    x.bag(2);
    x.habit(0, -3);
    x.habit(3, 2);
    x.time(x.runner(0, 5));
  }

  private static void fill(Noted x, boolean odd) {
    for (int k = 0; k < 48; k++) {
      x.feed(odd ? 'g' : 'm');
      x.feed(odd ? ';' : 255);
    }
    for (int k = 0; k < 12; k++) x.row(k % 2);
    for (int k = 0; k < 6; k++) x.bag(k + 1);
    for (int k = 0; k < 6; k++) x.time(150);
    for (int k = 0; k < 4; k++) x.habit(k, k - 2);
  }

  private static void look(Scene s, String name, int[] a, String state, String counted) {
    looked++;
    int number = number(s, name, a);
    Noted t = s.x.twin();
    long got = t.call(name, a);
    String what = s.name + ": " + name + Arrays.toString(a);
    if (number != 0) {
      refused++;
      same(what + " told", "" + got, "" + told(name, number));
      same(what + " counted", t.refusals(), oneMore(counted, -number));
      same(what + " left", t.state(), state);
    } else {
      same(what + " not refused", t.refusals(), counted);
      if (ASKING.contains(name)) same(what + " asked", t.state(), state);
    }
  }

  private record Asked(String name, int[] numbers) {
  }

  /** What is asked is told alike, whatever was asked ahead of it. */
  private static void inAnyOrder(Scene s) {
    List<Asked> asked = new ArrayList<>();
    for (String name : CALLS) {
      int many = 0;
      for (int[] a : all(name, s)) {
        if (ASKING.contains(name) && number(s, name, a) == 0 && many++ < 3) asked.add(new Asked(name, a));
      }
    }
    Noted forth = s.x.twin();
    Noted back = s.x.twin();
    for (int k = 0; k < asked.size(); k++) {
      askAlike(s, forth, asked.get(k));
      askAlike(s, back, asked.get(asked.size() - 1 - k));
    }
  }

  private static void askAlike(Scene s, Noted x, Asked a) {
    looked++;
    long want = s.x.twin().call(a.name, a.numbers);
    same(s.name + ": " + a.name + Arrays.toString(a.numbers) + " asked behind others", "" + x.call(a.name, a.numbers), "" + want);
  }

  private static void same(String what, String got, String want) {
    if (got.equals(want)) return;
    wrong++;
    if (wrong < 40) System.out.println(what + " is\n  " + got + "\nand not\n  " + want);
  }

  private static String oneMore(String counted, int kind) {
    String[] told = counted.trim().split(" ");
    told[kind - 1] = "" + (Integer.parseInt(told[kind - 1]) + 1);
    return String.join(" ", told) + " ";
  }

  private static long told(String name, int number) {
    switch (name) {
      case "pays": case "worth": return 1000000000L - number;
      case "likely": case "ordered": case "close": case "cup": case "league": case "bets": return 4000000000000000000L - number;
      default: return number;
    }
  }

  /** The refusal that is due, 0 if none is: of those that fit the first that the promise tells. */
  private static int number(Scene s, String name, int[] a) {
    switch (name) {
      case "feed": return first(below(a[0], 0), above(a[0], 255), room(s.full));
      case "start": return first(nobody(s, a[0]), below(a[1], 0), above(a[1], 99));
      case "kind": return first(nobody(s, a[0]), other(a[1], 5), below(a[2], 0), above(a[2], 9));
      case "set": return set(a[0], a[1]);
      case "run": return first(state(s.n >= 1), room(s.week999));
      case "row": return first(below(a[0], 0), above(a[0], 99), room(s.full));
      case "bag": return first(below(a[0], 1), above(a[0], 9), room(s.full));
      case "habit": return first(other(a[0], 3), below(a[1], -9), above(a[1], 9), room(s.full));
      case "time": return first(below(a[0], 0), above(a[0], 999), room(s.full));
      case "back": return state(s.runs);
      case "restore": return state(s.image);
      default: return asking(s, name, a);
    }
  }

  private static int asking(Scene s, String name, int[] a) {
    switch (name) {
      case "runner": return first(nobody(s, a[0]), other(a[1], 6));
      case "likely": case "league": case "past": case "fits": return first(nobody(s, a[0]), other(a[1], 1));
      case "ordered": return first(eachOnce(s.n, a[0]) ? 0 : -1, other(a[1], 1));
      case "close": return first(other(a[0], 1), other(a[1], 1), state(s.n >= 2));
      case "sure": return other(a[0], 1);
      case "even": case "ahead": case "hold": return two(s, a[0], a[1]);
      case "starts": return first(below(a[0], 5), below(a[1], 0), above(a[0], 50), state(s.n >= 1 && s.n <= 3));
      case "load": case "longer": return nobody(s, a[0]);
      case "on": return first(nobody(s, a[0]), below(a[1], 0), above(a[1], 60), other(a[2], 1));
      case "settles": case "let": return state(s.n >= 1);
      case "best": return first(below(a[0], 1), above(a[0], 60), state(s.n >= 2));
      case "pays": return first(nobody(s, a[0]), below(a[1], 0), above(a[1], 60));
      case "worth": return first(nobody(s, a[0]), below(a[1], 0), above(a[1], 99));
      case "same": return first(two(s, a[0], a[2]), below(a[1], 0), above(a[1], 99));
      case "teams": return first(other(a[0], 1), state(s.n >= 2));
      case "seeds": return first(nobody(s, a[0]), below(a[1], 1), above(a[1], 20), other(a[3], 1));
      case "bags": return first(two(s, a[0], a[1]), other(a[2], 1));
      case "cup": return first(nobody(s, a[0]), other(a[1], 2), other(a[2], 1), state(s.n == 4));
      case "bracket": return first(nobody(s, a[0]), state(s.n == 4));
      case "legs": return first(two(s, a[0], a[1]), below(a[2], 0), above(a[2], 20), other(a[3], 1));
      case "bet": return state(s.odds);
      case "bets": return first(state(s.odds), other(a[0], 1));
      case "tried": return first(below(a[0], 0), above(a[0], 60), other(a[1], 1), state(s.n >= 2));
      case "had": return first(nobody(s, a[0]), below(a[1], 0), below(a[2], 0), above(a[1], 60), above(a[2], a[1]), other(a[3], 1));
      default: return 0;
    }
  }

  private static int set(int what, int v) {
    int[] lo = {20, 0, 1, 0};
    int[] hi = {200, 4, 9, 999};
    if (what < 0 || what > 3) return -2;
    if (what == 1) return other(v, 4);
    return first(below(v, lo[what]), above(v, hi[what]));
  }

  private static int first(int... numbers) {
    for (int number : numbers) {
      if (number != 0) return number;
    }
    return 0;
  }

  private static int nobody(Scene s, int who) {
    return who < 0 || who >= s.n ? -1 : 0;
  }

  private static int two(Scene s, int one, int other) {
    return one == other ? -1 : first(nobody(s, one), nobody(s, other));
  }

  private static int other(int what, int most) {
    return what < 0 || what > most ? -2 : 0;
  }

  private static int state(boolean asTold) {
    return asTold ? 0 : -3;
  }

  private static int below(int v, int least) {
    return v < least ? -4 : 0;
  }

  private static int above(int v, int greatest) {
    return v > greatest ? -6 : 0;
  }

  private static int room(boolean none) {
    return none ? -6 : 0;
  }

  private static boolean eachOnce(int n, int digits) {
    String told = String.format("%0" + Math.max(1, n) + "d", digits);
    char[] sorted = told.toCharArray();
    Arrays.sort(sorted);
    return n == 0 ? digits == 0 : new String(sorted).equals("0123".substring(0, n));
  }

  private static int[] beside(int lo, int hi) {
    return new int[] {lo - 1, lo, hi, hi + 1};
  }

  /** What each number of a call is looked at with. */
  private static int[][] numbers(String name, Scene s) {
    int[] who = beside(0, s.n - 1);
    switch (name) {
      case "feed": return new int[][] {beside(0, 255)};
      case "runner": return new int[][] {who, beside(0, 6)};
      case "start": return new int[][] {who, beside(0, 99)};
      case "kind": return new int[][] {who, beside(0, 5), beside(0, 9)};
      case "set": return new int[][] {{-1, 0, 1, 2, 3, 4}, {-1, 0, 1, 4, 5, 9, 10, 19, 20, 200, 201, 999, 1000}};
      case "likely": case "league": case "fits": case "past": return new int[][] {who, PART};
      case "ordered": return new int[][] {orders(s.n), PART};
      case "close": return new int[][] {PART, PART};
      case "sure": case "teams": case "bets": return new int[][] {PART};
      case "even": case "ahead": case "hold": return new int[][] {who, who};
      case "starts": return new int[][] {beside(5, 50), beside(0, s.n - 1)};
      case "load": case "longer": case "bracket": return new int[][] {who};
      case "on": return new int[][] {who, beside(0, 60), PART};
      case "best": return new int[][] {beside(1, 60)};
      case "pays": return new int[][] {who, beside(0, 60)};
      case "worth": return new int[][] {who, beside(0, 99)};
      case "same": return new int[][] {who, beside(0, 99), who};
      case "row": return new int[][] {beside(0, 99)};
      case "seeds": return new int[][] {who, beside(1, 20), {LEAST, -1, 0, MOST}, PART};
      case "bag": return new int[][] {beside(1, 9)};
      case "bags": return new int[][] {who, who, PART};
      case "cup": return new int[][] {who, beside(0, 2), PART};
      case "legs": return new int[][] {who, who, beside(0, 20), PART};
      case "habit": return new int[][] {beside(0, 3), beside(-9, 9)};
      case "tried": return new int[][] {beside(0, 60), PART};
      case "had": return new int[][] {who, beside(0, 60), {-1, 0, 1, 59, 60, 61}, PART};
      case "time": return new int[][] {beside(0, 999)};
      case "count": return new int[][] {{-1, 0, 5, 18, 19}};
      default: return new int[][] {};
    }
  }

  private static int[] orders(int n) {
    int[][] of = {{0, 1, -1, 10}, {0, 1, -1, 10, 100}, {1, 10, 0, 2, 11, 20, 12, 101, 210, -1, -10},
        {12, 21, 102, 120, 201, 210, 0, 11, 10, 123, 212, 1210, 3210, -210},
        {123, 321, 1023, 2103, 3012, 3210, 210, 0, 1234, 3211, 3220, 13210, 43210, -3210}};
    return of[n];
  }

  /** All numbers with all, and the least and the greatest int in each place. */
  private static List<int[]> all(String name, Scene s) {
    int[][] numbers = numbers(name, s);
    List<int[]> all = new ArrayList<>();
    all.add(new int[0]);
    for (int[] more : numbers) {
      List<int[]> longer = new ArrayList<>();
      for (int[] a : all) {
        for (int v : more) {
          int[] b = Arrays.copyOf(a, a.length + 1);
          b[a.length] = v;
          longer.add(b);
        }
      }
      all = longer;
    }
    for (int p = 0; p < numbers.length; p++) {
      for (int far : new int[] {LEAST, MOST}) {
        int[] a = new int[numbers.length];
        for (int q = 0; q < a.length; q++) a[q] = q == p ? far : numbers[q][1];
        all.add(a);
      }
    }
    return all;
  }
}
