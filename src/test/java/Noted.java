import java.lang.reflect.InvocationTargetException;
import java.lang.reflect.Method;
import java.util.ArrayList;
import java.util.HashMap;
import java.util.List;
import java.util.Map;

/**
 * A HeadStart whose calls are noted down. A twin, brought to the same state by the same calls, can be asked for all that
 * is held, though asking wears it out; so no object is used for more than the 512 calls that the document speaks of.
 */
final class Noted {
  private static final int MOST_CALLS = 512;
  private static final Map<String, Method> METHODS = new HashMap<>();

  static {
    for (Method m : HeadStart.class.getMethods()) {
      if (m.getDeclaringClass() == HeadStart.class) METHODS.put(m.getName() + "/" + m.getParameterCount(), m);
    }
  }

  private record Call(String name, int[] numbers) {
  }

  private final HeadStart x = new HeadStart();
  private final List<Call> calls = new ArrayList<>();

  /** A new object to which a LANE was told. */
  static Noted with(String lane) {
    Noted x = new Noted();
    if (!lane.isEmpty() && x.tell(lane) < 0) throw new IllegalStateException("no lane: " + lane);
    return x;
  }

  Noted twin() {
    Noted t = new Noted();
    for (Call c : calls) t.call(c.name, c.numbers);
    return t;
  }

  long call(String name, int... numbers) {
    if (calls.size() == MOST_CALLS) throw new IllegalStateException("more than " + MOST_CALLS + " calls");
    Method m = METHODS.get(name + "/" + numbers.length);
    if (m == null) throw new IllegalArgumentException("no call " + name + " of " + numbers.length);
    calls.add(new Call(name, numbers.clone()));
    Object[] all = new Object[numbers.length];
    for (int i = 0; i < all.length; i++) all[i] = numbers[i];
    try {
      return ((Number) m.invoke(x, all)).longValue();
    } catch (IllegalAccessException | InvocationTargetException e) {
      throw new IllegalStateException(name + " threw", e);
    }
  }

  private int small(String name, int... numbers) {
    return (int) call(name, numbers);
  }

  int tell(String lane) {
    for (int i = 0; i < lane.length(); i++) feed(lane.charAt(i));
    return lane();
  }

  void rows(int... numbers) {
    clear();
    for (int v : numbers) row(v);
  }

  /** Refusals -1 .. -6 as they are counted. */
  String refusals() {
    Noted t = twin();
    StringBuilder s = new StringBuilder();
    for (int w = 11; w <= 16; w++) s.append(t.count(w)).append(' ');
    return s.toString();
  }

  /** WAY, WEEK, RULE, YARD and all RUNNERS. */
  String field() {
    StringBuilder s = new StringBuilder();
    twin().settings(s);
    return s.toString();
  }

  /** All that is held, but how many refusals there were. */
  String state() {
    return twin().worn();
  }

  /** All that is held: what is not told is told by what it brings about. */
  private String worn() {
    StringBuilder s = new StringBuilder("counts");
    for (int w = 0; w <= 18; w++) {
      if (w < 11 || w > 16) s.append(' ').append(count(w));
    }
    runners(s, 0, 6);
    s.append(" times ").append(past(0, 0)).append(' ').append(past(0, 1));
    s.append(" row ").append(fits(0, 0)).append(' ').append(bets(0)).append(' ').append(bets(1)).append(' ').append(judge());
    carried(s);
    while (count(17) > 0) {
      s.append(" back ").append(back()).append(' ').append(count(2));
      runners(s, 4, 4);
      runners(s, 6, 6);
    }
    s.append(" lane ").append(lane());
    settings(s);
    s.append(" restored ").append(restore());
    settings(s);
    carried(s);
    return s.toString();
  }

  private void carried(StringBuilder s) {
    s.append(" bags ").append(count(9)).append(' ').append(bags(0, 1, 0)).append(' ').append(bags(0, 1, 1));
    s.append(" habit ").append(count(10)).append(' ').append(tried(5, 0));
  }

  private void settings(StringBuilder s) {
    for (int w = 0; w <= 6; w++) s.append(' ').append(count(w));
    runners(s, 0, 6);
  }

  private void runners(StringBuilder s, int from, int to) {
    int n = count(0);
    for (int i = 0; i < n; i++) {
      s.append(" /");
      for (int w = from; w <= to; w++) s.append(' ').append(runner(i, w));
    }
  }

  int feed(int letter) {
    return small("feed", letter);
  }

  int lane() {
    return small("lane");
  }

  int runner(int runner, int what) {
    return small("runner", runner, what);
  }

  int start(int runner, int v) {
    return small("start", runner, v);
  }

  int kind(int runner, int kind, int figure) {
    return small("kind", runner, kind, figure);
  }

  int set(int what, int v) {
    return small("set", what, v);
  }

  int run() {
    return small("run");
  }

  int order() {
    return small("order");
  }

  long likely(int runner, int part) {
    return call("likely", runner, part);
  }

  long ordered(int digits, int part) {
    return call("ordered", digits, part);
  }

  long close(int what, int part) {
    return call("close", what, part);
  }

  int sure(int what) {
    return small("sure", what);
  }

  int even(int one, int other) {
    return small("even", one, other);
  }

  int starts(int step, int i) {
    return small("starts", step, i);
  }

  int load(int runner) {
    return small("load", runner);
  }

  int on(int runner, int n, int what) {
    return small("on", runner, n, what);
  }

  int settles() {
    return small("settles");
  }

  int best(int n) {
    return small("best", n);
  }

  int pays(int runner, int n) {
    return small("pays", runner, n);
  }

  int worth(int runner, int s) {
    return small("worth", runner, s);
  }

  int same(int one, int s, int other) {
    return small("same", one, s, other);
  }

  int teams(int what) {
    return small("teams", what);
  }

  int longer(int runner) {
    return small("longer", runner);
  }

  int fits(int runner, int what) {
    return small("fits", runner, what);
  }

  int let() {
    return small("let");
  }

  int row(int v) {
    return small("row", v);
  }

  int judge() {
    return small("judge");
  }

  int clear() {
    return small("clear");
  }

  int seeds(int runner, int n, int z, int what) {
    return small("seeds", runner, n, z, what);
  }

  int back() {
    return small("back");
  }

  int bag(int pounds) {
    return small("bag", pounds);
  }

  int empty() {
    return small("empty");
  }

  int bags(int one, int other, int what) {
    return small("bags", one, other, what);
  }

  int ahead(int one, int other) {
    return small("ahead", one, other);
  }

  long cup(int runner, int bracket, int part) {
    return call("cup", runner, bracket, part);
  }

  int bracket(int runner) {
    return small("bracket", runner);
  }

  long league(int runner, int part) {
    return call("league", runner, part);
  }

  int ranks() {
    return small("ranks");
  }

  int hold(int one, int other) {
    return small("hold", one, other);
  }

  int legs(int one, int other, int l, int what) {
    return small("legs", one, other, l, what);
  }

  int bet() {
    return small("bet");
  }

  long bets(int part) {
    return call("bets", part);
  }

  int habit(int whom, int yards) {
    return small("habit", whom, yards);
  }

  int forget() {
    return small("forget");
  }

  int tried(int n, int what) {
    return small("tried", n, what);
  }

  int had(int runner, int n, int m, int what) {
    return small("had", runner, n, m, what);
  }

  int time(int tenths) {
    return small("time", tenths);
  }

  int past(int runner, int what) {
    return small("past", runner, what);
  }

  int wipe() {
    return small("wipe");
  }

  int image() {
    return small("image");
  }

  int restore() {
    return small("restore");
  }

  int count(int what) {
    return small("count", what);
  }
}
