import java.util.ArrayDeque;
import java.util.ArrayList;
import java.util.Comparator;
import java.util.HashMap;
import java.util.List;
import java.util.Map;
import java.util.function.IntPredicate;
import java.util.function.IntToLongFunction;
import java.util.regex.Matcher;
import java.util.regex.Pattern;

/** Long runs of calls against a second program of the same document, slow and plain, that shares nothing with the first. */
public final class OracleTest {
  private static final int RUNS = 700;
  private static final int CALLS = 500;

  public static void main(String[] args) {
    int wrong = 0;
    Map<String, Integer> told = new HashMap<>();
    for (int run = 0; run < RUNS && wrong < 20; run++) {
      wrong += new Driver(run, told).go();
    }
    for (String name : Driver.NAMES) {
      if (!told.containsKey(name)) {
        wrong++;
        System.out.println(name + " was never called");
      }
    }
    System.out.println(wrong == 0 ? "the two programs answer the same" : wrong + " answers differ");
    if (wrong != 0) System.exit(1);
  }

  /** Draws calls and puts them to both programs. */
  private static final class Driver {
    static final String[] NAMES = {
        "feed", "lane", "runner", "start", "kind", "set", "run", "order", "likely", "ordered", "close", "sure", "even",
        "starts", "load", "on", "settles", "best", "pays", "worth", "same", "teams", "longer", "fits", "let", "row",
        "judge", "clear", "seeds", "back", "bag", "empty", "bags", "ahead", "cup", "bracket", "league", "ranks", "hold",
        "legs", "bet", "bets", "habit", "forget", "tried", "had", "time", "past", "wipe", "image", "restore", "count"};

    private static final String ODD_LETTERS = "wrmsg;0129qa \u00ff:/";

    final int run;
    final Map<String, Integer> told;
    final HeadStart x = new HeadStart();
    final Oracle o = new Oracle();
    final List<String> calls = new ArrayList<>();
    long seed;
    int wrong = 0;

    Driver(int run, Map<String, Integer> told) {
      this.run = run;
      this.told = told;
      this.seed = run * 7919L + 17;
    }

    int draw(int n) {
      seed = seed * 6364136223846793005L + 1442695040888963407L;
      return (int) ((seed >>> 33) % n);
    }

    boolean one(int in) {
      return draw(in) == 0;
    }

    /** Mostly from lo to hi, sometimes a number beside or far off. */
    int num(int lo, int hi) {
      if (one(14)) {
        int[] odd = {lo - 1, hi + 1, lo, hi, Integer.MIN_VALUE, Integer.MAX_VALUE, -1, 0};
        return odd[draw(odd.length)];
      }
      return lo + draw(hi - lo + 1);
    }

    int who() {
      if (one(20)) return num(0, 3);
      return draw(Math.max(1, o.all.size()));
    }

    int part() {
      return num(0, 1);
    }

    int go() {
      int runners = run % 5 == 0 ? draw(5) : 1 + draw(4);
      if (one(10)) runners = 0;
      tell(firstLane(runners));
      if (one(8)) tell("m" + draw(5) + (1 + draw(9)) + ";");
      while (calls.size() < CALLS - 100 && wrong == 0) step();
      for (int w = 0; w <= 18 && wrong == 0; w++) call("count", w);
      return wrong;
    }

    String firstLane(int runners) {
      StringBuilder s = new StringBuilder();
      int pace = 6 + draw(30);
      if (one(2)) s.append('w').append(20 + draw(181)).append(';');
      for (int i = 0; i < runners; i++) s.append(aRunner(pace));
      if (one(2)) s.append('m').append(draw(5)).append(1 + draw(9)).append(';');
      return s.length() == 0 ? "w100;" : s.toString();
    }

    String aRunner(int pace) {
      int p = Math.max(5, Math.min(40, pace - 1 + draw(3)));
      return "r" + draw(6) + draw(10) + two(p) + two(draw(21)) + two(one(2) ? 0 : one(2) ? draw(20) : draw(100)) + ";";
    }

    static String two(int v) {
      return v < 10 ? "0" + v : "" + v;
    }

    String statement() {
      switch (draw(8)) {
        case 0: return "w" + (one(3) ? draw(260) : 20 + draw(181)) + ";";
        case 1: return one(3) ? "r" + draw(10) + draw(10) + two(draw(100)) + two(draw(100)) + two(draw(100)) + ";" : aRunner(10 + draw(10));
        case 2: return "m" + draw(one(3) ? 10 : 5) + draw(10) + ";";
        case 3: case 4: return "s" + draw(one(3) ? 10 : Math.max(1, o.all.size())) + two(draw(100)) + ";";
        default: return "g;";
      }
    }

    void someLane() {
      StringBuilder s = new StringBuilder();
      int many = draw(6);
      for (int i = 0; i < many; i++) s.append(statement());
      if (one(5) && s.length() > 0) s.setLength(draw(s.length() + 1));
      if (one(6) && s.length() > 0) s.setCharAt(draw(s.length()), ODD_LETTERS.charAt(draw(ODD_LETTERS.length())));
      if (one(40)) while (s.length() < 99) s.append("g;");
      tell(s.toString());
    }

    void tell(String text) {
      for (int i = 0; i < text.length(); i++) call("feed", text.charAt(i));
      if (one(9)) call("count", 7);
      call("lane");
    }

    void step() {
      switch (draw(54)) {
        case 0: call("feed", num(0, 255)); if (!one(4)) call("lane"); break;
        case 1: someLane(); break;
        case 2: case 3: call("runner", who(), num(0, 6)); break;
        case 4: case 5: call("start", who(), num(0, one(2) ? 99 : 20)); break;
        case 6: case 7: call("kind", who(), num(0, 5), num(0, 9)); break;
        case 8: case 9: settings(); break;
        case 10: case 11: case 12: call("run"); break;
        case 13: call("order"); break;
        case 14: call("likely", who(), part()); break;
        case 15: call("ordered", digits(), part()); break;
        case 16: call("close", part(), part()); break;
        case 17: call("sure", part()); break;
        case 18: call("even", who(), who()); break;
        case 19: call("starts", one(9) ? num(5, 50) : num(o.all.size() > 2 ? 12 : 5, 50), num(0, 2)); break;
        case 20: call("load", who()); break;
        case 21: call("on", who(), num(0, 60), part()); break;
        case 22: call("settles"); break;
        case 23: call("best", num(1, 60)); break;
        case 24: call("pays", who(), num(0, 60)); break;
        case 25: call("worth", who(), num(0, 99)); break;
        case 26: call("same", who(), num(0, 99), who()); break;
        case 27: call("teams", part()); break;
        case 28: call("longer", who()); break;
        case 29: fitting(); break;
        case 30: call("let"); break;
        case 31: call("row", num(0, one(4) ? 99 : 9)); break;
        case 32: call("judge"); break;
        case 33: call("clear"); break;
        case 34: call("seeds", who(), num(1, 20), draw(3) == 0 ? draw(100) : (int) (seed >> 20), part()); break;
        case 35: call("back"); if (one(3)) call("back"); break;
        case 36: call("bag", num(1, 9)); break;
        case 37: if (one(3)) call("empty"); break;
        case 38: call("bags", who(), who(), part()); break;
        case 39: call("ahead", who(), who()); break;
        case 40: call("cup", who(), num(0, 2), part()); break;
        case 41: call("bracket", who()); break;
        case 42: call("league", who(), part()); break;
        case 43: call("ranks"); break;
        case 44: call("hold", who(), who()); break;
        case 45: call("legs", who(), who(), num(0, 20), part()); break;
        case 46: betting(); break;
        case 47: call("habit", num(0, 3), num(-9, 9)); if (one(12)) call("forget"); break;
        case 48: call("tried", num(0, 60), part()); break;
        case 49: { int n = num(0, one(2) ? 60 : 12); call("had", who(), n, num(0, Math.max(0, Math.min(n, 60))), part()); break; }
        case 50: timing(); break;
        case 51: if (one(2)) call("image"); else call("wipe"); break;
        case 52: if (one(3)) call("restore"); break;
        default: call("count", num(0, 18)); break;
      }
    }

    void settings() {
      int what = num(0, 3);
      int[] lo = {20, 0, 1, 0};
      int[] hi = {200, 4, 9, 999};
      if (what < 0 || what > 3) call("set", what, draw(9));
      else if (what == 3 && !one(6)) call("set", 3, one(3) ? 990 + draw(10) : draw(80));
      else call("set", what, num(lo[what], hi[what]));
    }

    int digits() {
      List<Integer> left = new ArrayList<>();
      int n = o.all.size();
      for (int i = 0; i < n; i++) left.add(i);
      if (one(6)) return num(0, 4000);
      int d = 0;
      while (!left.isEmpty()) d = d * 10 + left.remove(draw(left.size()));
      return one(30) ? d + (int) Math.pow(10, n) : d;
    }

    void fitting() {
      if (one(2) && !o.all.isEmpty()) {
        call("clear");
        Oracle.World w = o.copy();
        int many = 1 + draw(12);
        if (one(2)) w.all.get(draw(w.all.size())).start = draw(100);
        for (int k = 0; k < many; k++) call("row", w.race());
      }
      call("fits", who(), part());
      call("fits", who(), 0);
      if (one(3)) call("judge");
    }

    void betting() {
      if (!one(4)) {
        call("clear");
        for (int i = 0; i < o.all.size(); i++) call("row", num(1, 9));
      }
      call("bet");
      call("bets", part());
    }

    void timing() {
      if (one(2)) {
        call("wipe");
        if (!o.all.isEmpty()) {
          Oracle.World w = o.copy();
          Oracle.Brother b = w.all.get(draw(w.all.size()));
          if (one(3)) b.as(draw(6), draw(10));
          int many = draw(7);
          for (int k = 0; k < many; k++) {
            call("time", b.time(w));
            w.week++;
          }
        }
      } else {
        call("time", num(0, 999));
      }
      for (int i = 0; i < o.all.size(); i++) call("past", i, part());
    }

    void call(String name, int... a) {
      if (calls.size() >= CALLS + 10 || wrong > 0) return;
      StringBuilder s = new StringBuilder(name).append('(');
      for (int i = 0; i < a.length; i++) s.append(i == 0 ? "" : ", ").append(a[i]);
      calls.add(s.append(')').toString());
      told.merge(name, 1, Integer::sum);
      long got = HeadStartCall.on(x, name, a);
      long want = o.call(name, a);
      if (got != want) {
        wrong++;
        System.out.println("run " + run + ": " + s + " answered " + got + ", due is " + want);
        System.out.println("  behind " + calls);
      }
    }
  }

  /** Puts a call by its name. */
  private static final class HeadStartCall {
    static long on(HeadStart x, String name, int[] a) {
      switch (name) {
        case "feed": return x.feed(a[0]);
        case "lane": return x.lane();
        case "runner": return x.runner(a[0], a[1]);
        case "start": return x.start(a[0], a[1]);
        case "kind": return x.kind(a[0], a[1], a[2]);
        case "set": return x.set(a[0], a[1]);
        case "run": return x.run();
        case "order": return x.order();
        case "likely": return x.likely(a[0], a[1]);
        case "ordered": return x.ordered(a[0], a[1]);
        case "close": return x.close(a[0], a[1]);
        case "sure": return x.sure(a[0]);
        case "even": return x.even(a[0], a[1]);
        case "starts": return x.starts(a[0], a[1]);
        case "load": return x.load(a[0]);
        case "on": return x.on(a[0], a[1], a[2]);
        case "settles": return x.settles();
        case "best": return x.best(a[0]);
        case "pays": return x.pays(a[0], a[1]);
        case "worth": return x.worth(a[0], a[1]);
        case "same": return x.same(a[0], a[1], a[2]);
        case "teams": return x.teams(a[0]);
        case "longer": return x.longer(a[0]);
        case "fits": return x.fits(a[0], a[1]);
        case "let": return x.let();
        case "row": return x.row(a[0]);
        case "judge": return x.judge();
        case "clear": return x.clear();
        case "seeds": return x.seeds(a[0], a[1], a[2], a[3]);
        case "back": return x.back();
        case "bag": return x.bag(a[0]);
        case "empty": return x.empty();
        case "bags": return x.bags(a[0], a[1], a[2]);
        case "ahead": return x.ahead(a[0], a[1]);
        case "cup": return x.cup(a[0], a[1], a[2]);
        case "bracket": return x.bracket(a[0]);
        case "league": return x.league(a[0], a[1]);
        case "ranks": return x.ranks();
        case "hold": return x.hold(a[0], a[1]);
        case "legs": return x.legs(a[0], a[1], a[2], a[3]);
        case "bet": return x.bet();
        case "bets": return x.bets(a[0]);
        case "habit": return x.habit(a[0], a[1]);
        case "forget": return x.forget();
        case "tried": return x.tried(a[0], a[1]);
        case "had": return x.had(a[0], a[1], a[2], a[3]);
        case "time": return x.time(a[0]);
        case "past": return x.past(a[0], a[1]);
        case "wipe": return x.wipe();
        case "image": return x.image();
        case "restore": return x.restore();
        case "count": return x.count(a[0]);
        default: throw new IllegalArgumentException(name);
      }
    }
  }

  /** The document once more, in other words. */
  private static final class Oracle {
    private static final Pattern LANE = Pattern.compile("(?:w[0-9]{1,3};|r[0-9]{8};|m[0-9]{2};|s[0-9]{3};|g;)+");

    private World world = new World();
    List<Brother> all = world.all;
    private StringBuilder letters = new StringBuilder();
    private List<Integer> row = new ArrayList<>();
    private List<Integer> times = new ArrayList<>();
    private ArrayDeque<World> runs = new ArrayDeque<>();
    private World image = null;
    private final int[] refusals = new int[7];

    World copy() {
      return world.copy();
    }

    private static final class Refusal extends RuntimeException {
      private static final long serialVersionUID = 1;
      final int number;

      Refusal(int number) {
        super(null, null, false, false);
        this.number = number;
      }
    }

    private static void unless(boolean holds, int number) {
      if (!holds) throw new Refusal(number);
    }

    long call(String name, int[] a) {
      try {
        return answer(name, a);
      } catch (Refusal r) {
        refusals[-r.number]++;
        switch (name) {
          case "pays": case "worth": return 1000000000L - r.number;
          case "likely": case "ordered": case "close": case "cup": case "league": case "bets":
            return 4000000000000000000L - r.number;
          default: return r.number;
        }
      } finally {
        all = world.all;
      }
    }

    private void body(int i) {
      unless(i >= 0 && i < world.all.size(), -1);
    }

    private void bodies(int i, int j) {
      body(i);
      body(j);
      unless(i != j, -1);
    }

    private static void either(int what) {
      unless(what == 0 || what == 1, -2);
    }

    private static void within(int v, int lo, int hi) {
      unless(v >= lo, -4);
      unless(v <= hi, -6);
    }

    private void atLeast(int runners) {
      unless(world.all.size() >= runners, -3);
    }

    private long answer(String name, int[] a) {
      switch (name) {
        case "feed": within(a[0], 0, 255); unless(letters.length() < 96, -6); letters.append((char) a[0]); return letters.length();
        case "lane": return lane();
        case "runner": body(a[0]); unless(a[1] >= 0 && a[1] <= 6, -2); return world.all.get(a[0]).tell(a[1], world);
        case "start": {
          body(a[0]);
          within(a[1], 0, 99);
          int was = world.all.get(a[0]).start;
          world.all.get(a[0]).start = a[1];
          runs.clear();
          return was;
        }
        case "kind": {
          body(a[0]);
          unless(a[1] >= 0 && a[1] <= 5, -2);
          within(a[2], 0, 9);
          Brother b = world.all.get(a[0]);
          int was = 10 * b.kind + b.figure;
          b.as(a[1], a[2]);
          runs.clear();
          return was;
        }
        case "set": return set(a[0], a[1]);
        case "run": {
          atLeast(1);
          unless(world.week < 999, -6);
          World before = world.copy();
          int won = world.race();
          world.all.get(won).wins++;
          runs.push(before);
          while (runs.size() > 6) runs.removeLast();
          return won;
        }
        case "back": {
          unless(!runs.isEmpty(), -3);
          World w = runs.pop();
          world.week = w.week;
          for (int i = 0; i < w.all.size(); i++) {
            world.all.get(i).start = w.all.get(i).start;
            world.all.get(i).wins = w.all.get(i).wins;
          }
          return runs.size();
        }
        case "row": within(a[0], 0, 99); unless(row.size() < 12, -6); row.add(a[0]); return row.size();
        case "clear": { int n = row.size(); row.clear(); return n; }
        case "bag": within(a[0], 1, 9); unless(world.bags.size() < 6, -6); world.bags.add(a[0]); return world.bags.size();
        case "empty": { int n = world.bags.size(); world.bags.clear(); return n; }
        case "habit": {
          unless(a[0] >= 0 && a[0] <= 3, -2);
          within(a[1], -9, 9);
          unless(world.habit.size() < 4, -6);
          world.habit.add(new int[] {a[0], a[1]});
          return world.habit.size();
        }
        case "forget": { int n = world.habit.size(); world.habit.clear(); return n; }
        case "time": within(a[0], 0, 999); unless(times.size() < 6, -6); times.add(a[0]); return times.size();
        case "wipe": { int n = times.size(); times.clear(); return n; }
        case "image": image = world.copy(); return world.week;
        case "restore": unless(image != null, -3); world = image.copy(); runs.clear(); return world.week;
        case "count": return count(a[0]);
        default: return chances(name, a);
      }
    }

    private long chances(String name, int[] a) {
      switch (name) {
        case "order": return digits(world.asRule());
        case "likely": {
          body(a[0]);
          either(a[1]);
          return fraction(first(world, a[0]), 1L << 2 * world.all.size(), a[1]);
        }
        case "ordered": {
          int n = world.all.size();
          unless(a[0] >= 0, -1);
          String s = new StringBuilder("" + a[0]).reverse().toString();
          while (s.length() < n) s += "0";
          unless(n == 0 ? a[0] == 0 : s.length() == n, -1);
          for (int i = 0; i < n; i++) unless(s.indexOf('0' + i) >= 0, -1);
          either(a[1]);
          return fraction(ways(world, took -> digits(took) == a[0] ? 1 : 0), 1L << 2 * n, a[1]);
        }
        case "close": {
          either(a[0]);
          either(a[1]);
          atLeast(2);
          long above = a[0] == 0 ? ways(world, Oracle::gap) : uneven(world);
          return fraction(above, 1L << 2 * world.all.size(), a[1]);
        }
        case "sure": {
          either(a[0]);
          int bits = 0;
          long due = a[0] == 0 ? 1L << 2 * world.all.size() : 0;
          for (int i = 0; i < world.all.size(); i++) if (first(world, i) == due) bits += 1 << i;
          return bits;
        }
        case "even": {
          bodies(a[0], a[1]);
          return leastBy(0, 99, s -> {
            World w = world.copy();
            w.all.get(a[1]).start = s;
            return Math.abs(ahead(w, a[0], a[1]) - 8);
          });
        }
        case "starts": return starts(a[0], a[1]);
        case "load": {
          body(a[0]);
          return leastBy(0, 9, f -> {
            World w = world.copy();
            w.all.get(a[0]).as(4, f);
            return uneven(w);
          });
        }
        case "longer": {
          body(a[0]);
          return leastThat(20, 200, way -> {
            World w = world.copy();
            w.way = way;
            return 2 * first(w, a[0]) >= 1L << 2 * w.all.size();
          });
        }
        case "seeds": return seeds(a[0], a[1], a[2], a[3]);
        case "bags": {
          bodies(a[0], a[1]);
          either(a[2]);
          IntToLongFunction far = bits -> {
            World w = world.copy();
            for (int b = 0; b < w.bags.size(); b++) w.all.get((bits >> b & 1) == 1 ? a[0] : a[1]).more += 2 * w.bags.get(b);
            return Math.abs(ahead(w, a[0], a[1]) - 8);
          };
          int bits = leastBy(0, (1 << world.bags.size()) - 1, far);
          return a[2] == 0 ? bits : far.applyAsLong(bits);
        }
        case "ahead": bodies(a[0], a[1]); return ahead(world, a[0], a[1]);
        case "cup": {
          body(a[0]);
          unless(a[1] >= 0 && a[1] <= 2, -2);
          either(a[2]);
          unless(world.all.size() == 4, -3);
          return fraction(cup(a[0], a[1]), 4096, a[2]);
        }
        case "bracket": body(a[0]); unless(world.all.size() == 4, -3); return leastBy(0, 2, b -> -cup(a[0], b));
        case "league": body(a[0]); either(a[1]); return fraction(league(a[0]), 16, a[1]);
        case "ranks": {
          List<Integer> table = numbers(world.all.size());
          table.sort(Comparator.<Integer>comparingLong(i -> -league(i)));
          int d = 0;
          for (int p = table.size() - 1; p >= 0; p--) d = 10 * d + table.get(p);
          return d;
        }
        case "hold": bodies(a[0], a[1]); return hold(a[0], a[1]);
        case "bet": return bet();
        case "bets": {
          int who = bet();
          either(a[0]);
          return fraction(first(world, who) * (row.get(who) + 1), 1L << 2 * world.all.size(), a[0]);
        }
        default: return inMind(name, a);
      }
    }

    private long inMind(String name, int[] a) {
      switch (name) {
        case "on": {
          body(a[0]);
          within(a[1], 0, 60);
          either(a[2]);
          World w = world.copy();
          int won = w.winners(a[1], a[0]);
          return a[2] == 0 ? w.all.get(a[0]).start : won;
        }
        case "settles": {
          atLeast(1);
          World w = world.copy();
          List<List<Integer>> told = new ArrayList<>();
          for (int k = 0; k <= 60; k++) {
            List<Integer> now = new ArrayList<>();
            for (Brother b : w.all) now.add(b.start);
            told.add(now);
            w.race();
          }
          int from = 60;
          while (from > 0 && told.get(from - 1).equals(told.get(60))) from--;
          return from == 60 ? -9 : from;
        }
        case "best": {
          within(a[0], 1, 60);
          atLeast(2);
          return leastBy(0, 4, rule -> {
            World w = world.copy();
            w.rule = rule;
            return w.gaps(a[0], false);
          });
        }
        case "pays": {
          body(a[0]);
          within(a[1], 0, 60);
          World sly = world.copy();
          sly.all.get(a[0]).as(3, sly.all.get(a[0]).figure);
          World plain = world.copy();
          plain.all.get(a[0]).as(0, plain.all.get(a[0]).figure);
          return sly.winners(a[1], a[0]) - plain.winners(a[1], a[0]);
        }
        case "worth": body(a[0]); within(a[1], 0, 99); return worth(a[0], a[1]);
        case "same": {
          bodies(a[0], a[2]);
          within(a[1], 0, 99);
          int due = worth(a[0], a[1]);
          return leastThat(0, 99, s -> worth(a[2], s) >= due);
        }
        case "teams": {
          either(a[0]);
          atLeast(2);
          int n = world.all.size();
          IntToLongFunction far = team -> {
            int in = 0;
            int out = 0;
            for (int i = 0; i < n; i++) {
              int t = world.all.get(i).over(world.way / 2, world);
              if ((team >> i) % 2 == 1) in += t; else out += t;
            }
            return (team & 1) == 0 || team == (1 << n) - 1 ? 1 << 20 : Math.abs(in - out);
          };
          int team = leastBy(0, (1 << n) - 1, far);
          return a[0] == 0 ? team : far.applyAsLong(team);
        }
        case "fits": {
          body(a[0]);
          either(a[1]);
          return those(0, 99, a[1], s -> {
            World w = world.copy();
            w.all.get(a[0]).start = s;
            return w.judged(row) < 0;
          });
        }
        case "let": {
          atLeast(1);
          int first = world.asRule().order().get(0);
          int bits = 0;
          for (int i = 0; i < world.all.size(); i++) {
            World w = world.copy();
            w.all.get(i).as(0, 0);
            if (w.asRule().order().get(0) != first) bits |= 1 << i;
          }
          return bits;
        }
        case "judge": {
          int at = world.copy().judged(row);
          row.clear();
          return at < 0 ? -9 : at;
        }
        case "legs": {
          bodies(a[0], a[1]);
          within(a[2], 0, 20);
          either(a[3]);
          int half = world.way / 2 + a[2];
          int rest = Math.max(1, world.way - half);
          Brother one = world.all.get(a[0]);
          Brother other = world.all.get(a[1]);
          int asTold = one.over(half, world) + other.over(rest, world);
          int turned = other.over(half, world) + one.over(rest, world);
          if (a[3] == 1) return Math.min(asTold, turned);
          return turned < asTold ? a[1] : a[0];
        }
        case "tried": {
          within(a[0], 0, 60);
          either(a[1]);
          atLeast(2);
          int sum = world.copy().gaps(a[0], true);
          int byRule = world.copy().gaps(a[0], false);
          return a[1] == 0 ? sum : sum < byRule ? 1 : 0;
        }
        case "had": {
          body(a[0]);
          unless(a[1] >= 0 && a[2] >= 0, -4);
          unless(a[1] <= 60 && a[2] <= a[1], -6);
          either(a[3]);
          return those(0, 99, a[3], s -> {
            World w = world.copy();
            w.all.get(a[0]).start = s;
            return w.winners(a[1], a[0]) == a[2];
          });
        }
        case "past": {
          body(a[0]);
          either(a[1]);
          return those(0, 59, a[1], code -> {
            World w = world.copy();
            w.all.get(a[0]).as(code / 10, code % 10);
            for (int t : times) {
              if (w.all.get(a[0]).time(w) != t) return false;
              w.week++;
            }
            return true;
          });
        }
        default: throw new IllegalArgumentException(name);
      }
    }

    private long set(int what, int v) {
      unless(what >= 0 && what <= 3, -2);
      int was;
      switch (what) {
        case 0: within(v, 20, 200); was = world.way; world.way = v; break;
        case 1: unless(v >= 0 && v <= 4, -2); was = world.rule; world.rule = v; break;
        case 2: within(v, 1, 9); was = world.yard; world.yard = v; break;
        default: within(v, 0, 999); was = world.week; world.week = v; break;
      }
      runs.clear();
      return was;
    }

    private long count(int what) {
      int starts = 0;
      int wins = 0;
      for (Brother b : world.all) {
        starts += b.start;
        wins += b.wins;
      }
      int[] told = {world.all.size(), world.way, world.week, world.rule, world.yard, starts, wins, letters.length(), row.size(),
          world.bags.size(), world.habit.size(), refusals[1], refusals[2], refusals[3], refusals[4], refusals[5], refusals[6],
          runs.size(), times.size()};
      return what >= 0 && what < told.length ? told[what] : -9;
    }

    private long lane() {
      String text = letters.toString();
      letters.setLength(0);
      for (int p = 0; p < text.length(); p++) {
        Matcher m = LANE.matcher(text.substring(0, p + 1));
        if (!m.matches() && !m.hitEnd()) return -1000 - p;
      }
      if (!LANE.matcher(text).matches()) return -1000 - text.length();
      World w = world.copy();
      int place = 0;
      int many = 0;
      for (String s : text.split(";")) {
        if (!statement(w, s)) return -2000 - place;
        place += s.length() + 1;
        many++;
      }
      world = w;
      runs.clear();
      return many;
    }

    private static int number(String s, int from, int to) {
      return Integer.parseInt(s.substring(from, to));
    }

    private static boolean statement(World w, String s) {
      switch (s.charAt(0)) {
        case 'w': w.way = number(s, 1, s.length()); return w.way >= 20 && w.way <= 200;
        case 'r': {
          Brother b = new Brother();
          b.as(number(s, 1, 2), number(s, 2, 3));
          b.pace = number(s, 3, 5);
          b.spread = number(s, 5, 7);
          b.start = number(s, 7, 9);
          w.all.add(b);
          return w.all.size() <= 4 && b.kind <= 5 && b.pace >= 5 && b.pace <= 40 && b.spread <= 20;
        }
        case 'm': w.rule = number(s, 1, 2); w.yard = number(s, 2, 3); return w.rule <= 4 && w.yard > 0;
        case 's': {
          int i = number(s, 1, 2);
          if (i >= w.all.size()) return false;
          w.all.get(i).start = number(s, 2, 4);
          return true;
        }
        default: {
          if (w.all.isEmpty() || w.week == 999) return false;
          int won = w.race();
          w.all.get(won).wins++;
          return true;
        }
      }
    }

    private long starts(int step, int i) {
      unless(step >= 5 && i >= 0, -4);
      unless(step <= 50, -6);
      int n = world.all.size();
      unless(n >= 1 && n <= 3, -3);
      if (i >= n) return -9;
      int[] best = null;
      long least = Long.MAX_VALUE;
      World w = world.copy();
      for (int s0 = 0; s0 <= 99; s0 += step) {
        for (int s1 = 0; s1 <= (n > 1 ? 99 : 0); s1 += step) {
          for (int s2 = 0; s2 <= (n > 2 ? 99 : 0); s2 += step) {
            int[] s = {s0, s1, s2};
            for (int r = 0; r < n; r++) w.all.get(r).start = s[r];
            long u = uneven(w);
            if (u < least) {
              least = u;
              best = s;
            }
          }
        }
      }
      return best[i];
    }

    private long seeds(int who, int n, int z, int what) {
      body(who);
      within(n, 1, 20);
      either(what);
      World w = world.copy();
      int won = 0;
      int between = 0;
      for (int k = 0; k < n; k++) {
        Took took = new Took();
        for (Brother b : w.all) {
          z = (int) ((z * 1103515245L + 12345L) & 0xffffffffL);
          int t = b.time(w);
          switch ((int) ((z & 0x7fffffffL) >> 16) & 3) {
            case 0: took.add(Math.max(1, t - b.spread)); break;
            case 3: took.add(t + b.spread); break;
            default: took.add(t); break;
          }
        }
        if (took.order().get(0) == who) won++;
        between += gap(took);
        w.mend(took);
        w.week++;
      }
      return what == 0 ? won : between;
    }

    private long cup(int who, int bracket) {
      int[][] with = {{1, 0, 3, 2}, {2, 3, 0, 1}, {3, 2, 1, 0}};
      long sum = 0;
      for (int j = 0; j < 4; j++) {
        if (j == who || j == with[bracket][who]) continue;
        sum += ahead(world, who, with[bracket][who]) * ahead(world, j, with[bracket][j]) * ahead(world, who, j);
      }
      return sum;
    }

    private long league(int who) {
      long sum = 0;
      for (int j = 0; j < world.all.size(); j++) if (j != who) sum += ahead(world, who, j);
      return sum;
    }

    private int hold(int one, int other) {
      long[][] worth = new long[4][2];
      for (int p = 0; p < 4; p++) {
        World w = world.copy();
        Brother b = w.all.get(one);
        Brother c = w.all.get(other);
        if (p / 2 == 1) b.more = b.figure;
        if (p % 2 == 1) c.more = c.figure;
        worth[p][0] = ahead(w, one, other);
        worth[p][1] = ahead(w, other, one);
        World alone = w.only(one, other);
        alone.race();
        b = alone.all.get(one < other ? 0 : 1);
        c = alone.all.get(one < other ? 1 : 0);
        b.more = 0;
        c.more = 0;
        worth[p][0] += ahead(alone, one < other ? 0 : 1, one < other ? 1 : 0);
        worth[p][1] += ahead(alone, one < other ? 1 : 0, one < other ? 0 : 1);
      }
      for (int first = 0; first < 2; first++) {
        for (int second = 0; second < 2; second++) {
          boolean still = worth[2 * first + second][0] >= worth[2 * (1 - first) + second][0]
              && worth[2 * first + second][1] >= worth[2 * first + 1 - second][1];
          if (still) return 2 * first + second;
        }
      }
      return -9;
    }

    private int bet() {
      unless(!row.isEmpty() && row.size() == world.all.size(), -3);
      for (int v : row) unless(v >= 1 && v <= 9, -3);
      return leastBy(0, row.size() - 1, i -> -first(world, i) * (row.get(i) + 1));
    }

    private int worth(int who, int s) {
      World w = world.copy();
      Brother b = w.all.get(who);
      b.start = 0;
      int without = b.time(w);
      b.start = s;
      return without - b.time(w);
    }

    private static int leastBy(int lo, int hi, IntToLongFunction by) {
      int best = lo;
      for (int v = lo + 1; v <= hi; v++) if (by.applyAsLong(v) < by.applyAsLong(best)) best = v;
      return best;
    }

    private static int leastThat(int lo, int hi, IntPredicate is) {
      for (int v = lo; v <= hi; v++) if (is.test(v)) return v;
      return -9;
    }

    private static long those(int lo, int hi, int what, IntPredicate is) {
      if (what == 1) return leastThat(lo, hi, is);
      int many = 0;
      for (int v = lo; v <= hi; v++) if (is.test(v)) many++;
      return many;
    }

    private static List<Integer> numbers(int n) {
      List<Integer> list = new ArrayList<>();
      for (int i = 0; i < n; i++) list.add(i);
      return list;
    }

    private static long fraction(long above, long below, int part) {
      long g = below;
      for (long r = above; r != 0; ) {
        long t = g % r;
        g = r;
        r = t;
      }
      return (part == 0 ? above : below) / g;
    }

    private interface Worth {
      long of(Took took);
    }

    /** All quarters of all RUNNERS, one by one. */
    private static long ways(World w, Worth worth) {
      int n = w.all.size();
      int[][] quarter = new int[n][4];
      for (int i = 0; i < n; i++) {
        int t = w.all.get(i).time(w);
        int s = w.all.get(i).spread;
        quarter[i] = new int[] {Math.max(1, t - s), t, t, t + s};
      }
      long sum = 0;
      for (int code = 0; code < 1 << 2 * n; code++) {
        Took took = new Took();
        for (int i = 0; i < n; i++) took.add(quarter[i][code >> 2 * i & 3]);
        sum += worth.of(took);
      }
      return sum;
    }

    private static long first(World w, int who) {
      return ways(w, took -> took.quickest() == who ? 1 : 0);
    }

    private static long ahead(World w, int one, int other) {
      return first(w.only(one, other), one < other ? 0 : 1);
    }

    private static long uneven(World w) {
      int n = w.all.size();
      long[] many = new long[n];
      ways(w, took -> ++many[took.quickest()]);
      long most = 0;
      long least = Long.MAX_VALUE;
      for (long m : many) {
        most = Math.max(most, m);
        least = Math.min(least, m);
      }
      return most - least;
    }

    private static long gap(Took took) {
      List<Integer> order = took.order();
      return order.size() < 2 ? 0 : took.get(order.get(1)) - took.get(order.get(0));
    }

    private static int digits(Took took) {
      int d = 0;
      int place = 1;
      for (int i : took.order()) {
        d += place * i;
        place *= 10;
      }
      return d;
    }

    /** What each takes. */
    private static final class Took extends ArrayList<Integer> {
      private static final long serialVersionUID = 1;

      List<Integer> order() {
        List<Integer> order = numbers(size());
        order.sort(Comparator.<Integer>comparingInt(i -> get(i)).thenComparingInt(i -> i));
        return order;
      }

      int quickest() {
        int best = 0;
        for (int i = 1; i < size(); i++) if (get(i) < get(best)) best = i;
        return best;
      }
    }

    private static class Kind {
      int time(Brother b, int y, World w) {
        return Math.max(1, b.pace * y / 10);
      }
    }

    private static final class Grower extends Kind {
      @Override int time(Brother b, int y, World w) {
        return Math.max(1, super.time(b, y, w) - w.week * b.figure / 10);
      }
    }

    private static class Tired extends Kind {
      @Override int time(Brother b, int y, World w) {
        return Math.max(1, super.time(b, y, w) + b.figure * Math.max(0, y - 50) / 20);
      }
    }

    private static class Sly extends Kind {
      @Override int time(Brother b, int y, World w) {
        return super.time(b, y, w) + (w.week % 2 == 0 ? b.figure : 0);
      }
    }

    private static final class Loaded extends Tired {
      @Override int time(Brother b, int y, World w) {
        return super.time(b, y, w) + 2 * b.figure;
      }
    }

    private static final class Letting extends Sly {
      @Override int time(Brother b, int y, World w) {
        return super.time(b, y, w) + (b.start == 0 ? 5 : 0);
      }
    }

    private static final Kind[] KINDS = {new Kind(), new Grower(), new Tired(), new Sly(), new Loaded(), new Letting()};

    private static final class Brother {
      int kind;
      int figure;
      int pace;
      int spread;
      int start;
      int wins;
      int more;

      void as(int kind, int figure) {
        this.kind = kind;
        this.figure = figure;
      }

      Brother copy() {
        Brother b = new Brother();
        b.as(kind, figure);
        b.pace = pace;
        b.spread = spread;
        b.start = start;
        b.wins = wins;
        b.more = more;
        return b;
      }

      int time(World w) {
        return KINDS[kind].time(this, Math.max(1, w.way - start), w) + more;
      }

      int over(int yards, World w) {
        Brother b = copy();
        b.start = 0;
        return KINDS[kind].time(b, yards, w);
      }

      int tell(int what, World w) {
        return new int[] {kind, figure, pace, spread, start, time(w), wins}[what];
      }
    }

    /** All that an IMAGE holds. */
    private static final class World {
      int way = 100;
      int week = 0;
      int rule = 0;
      int yard = 2;
      final List<Brother> all = new ArrayList<>();
      final List<Integer> bags = new ArrayList<>();
      final List<int[]> habit = new ArrayList<>();

      World copy() {
        World w = only();
        for (Brother b : all) w.all.add(b.copy());
        w.bags.addAll(bags);
        w.habit.addAll(habit);
        return w;
      }

      World only(int... who) {
        World w = new World();
        w.way = way;
        w.week = week;
        w.rule = rule;
        w.yard = yard;
        for (int i = 0; i < all.size(); i++) {
          for (int j : who) if (i == j) w.all.add(all.get(i).copy());
        }
        return w;
      }

      Took asRule() {
        Took took = new Took();
        for (Brother b : all) took.add(b.time(this));
        return took;
      }

      int race() {
        Took took = asRule();
        mend(took);
        week++;
        return took.order().get(0);
      }

      void mend(Took took) {
        List<Integer> order = took.order();
        int first = order.get(0);
        int last = order.get(order.size() - 1);
        switch (rule) {
          case 1: yards(first, -yard); break;
          case 2: yards(last, yard); break;
          case 3: yards(first, -yard); yards(last, yard); break;
          case 4:
            yards(first, -yard);
            for (int i : order) if (i != first) yards(i, 1);
            break;
          default: break;
        }
      }

      void yards(int who, int more) {
        Brother b = all.get(who);
        b.start += more;
        if (b.start < 0) b.start = 0;
        if (b.start > 99) b.start = 99;
      }

      int winners(int n, int who) {
        int won = 0;
        for (int k = 0; k < n; k++) if (race() == who) won++;
        return won;
      }

      int judged(List<Integer> row) {
        for (int k = 0; k < row.size(); k++) {
          if (all.isEmpty() || race() != row.get(k)) return k;
        }
        return -1;
      }

      int gaps(int n, boolean byHabit) {
        int sum = 0;
        for (int k = 0; k < n; k++) {
          Took took = asRule();
          sum += gap(took);
          if (byHabit) habitual(took.order()); else mend(took);
          week++;
        }
        return sum;
      }

      private void habitual(List<Integer> order) {
        for (int[] clause : habit) {
          for (int place = 0; place < order.size(); place++) {
            boolean first = place == 0;
            boolean last = place == order.size() - 1;
            boolean meant = clause[0] == 3 || clause[0] == 0 && first || clause[0] == 1 && last || clause[0] == 2 && !first && !last;
            if (meant) yards(order.get(place), clause[1]);
          }
        }
      }
    }
  }
}
