import java.util.ArrayList;
import java.util.List;
import java.util.function.LongSupplier;

/** Each promise by itself: ordinary inputs, the edges that the document names, and wrong inputs. */
public final class PromiseTest {
  private static final long HIGH = 1000000000L;
  private static final long LONG = 4000000000000000000L;
  private static final List<String> wrong = new ArrayList<>();
  private static int looked = 0;

  public static void main(String[] args) {
    aNewObject();
    letters();
    lanesThatCome();
    lanesWithAFault();
    runners();
    timesOfAllKinds();
    startsAndKinds();
    settings();
    runs();
    rules();
    orders();
    likelihoods();
    closeness();
    surely();
    evening();
    evenestStarts();
    loads();
    onRaces();
    settling();
    bestRules();
    paying();
    worths();
    teamsOfAll();
    longerWays();
    fitting();
    letting();
    rows();
    seeded();
    takenBack();
    bagsOfTwo();
    cups();
    leagues();
    holding();
    legsOfTwo();
    betting();
    habits();
    hadSoMany();
    pastTimes();
    images();
    counts();
    for (String w : wrong) System.out.println(w);
    System.out.println(looked + " answers looked at, " + wrong.size() + " not as due");
    if (!wrong.isEmpty()) System.exit(1);
  }

  private static void due(String what, long got, long want) {
    looked++;
    if (got != want) wrong.add(what + " answered " + got + ", due is " + want);
  }

  /** A refusal: the number, counted once, and nothing else changed. */
  private static void refused(String what, Noted x, LongSupplier call, int number, long told) {
    String before = x.state();
    Noted counted = x.twin();
    due(what, call.getAsLong(), told);
    Noted recounted = x.twin();
    for (int w = 11; w <= 16; w++) {
      due(what + " counted by " + w, recounted.count(w), counted.count(w) + (w == 10 - number ? 1 : 0));
    }
    same(what, x.state(), before);
  }

  private static void same(String what, String got, String want) {
    looked++;
    if (!got.equals(want)) wrong.add(what + ": not as it was\n  " + want + "\n  " + got);
  }

  private static void refused(String what, Noted x, LongSupplier call, int number) {
    refused(what, x, call, number, number);
  }

  private static void refusedHigh(String what, Noted x, LongSupplier call, int number) {
    refused(what, x, call, number, HIGH - number);
  }

  private static void refusedLong(String what, Noted x, LongSupplier call, int number) {
    refused(what, x, call, number, LONG - number);
  }

  private static int tell(Noted x, String lane) {
    return x.tell(lane);
  }

  private static Noted with(String lane) {
    return Noted.with(lane);
  }

  private static void row(Noted x, int... numbers) {
    x.rows(numbers);
  }

  private static void fractionDue(String what, long above, long below, long wantAbove, long wantBelow) {
    due(what + " above", above, wantAbove);
    due(what + " below", below, wantBelow);
  }

  // 1
  private static void aNewObject() {
    Noted x = new Noted();
    int[] want = {0, 100, 0, 0, 2, 0, 0, 0, 0, 0, 0, 0, 0, 0, 0, 0, 0, 0, 0};
    for (int w = 0; w < want.length; w++) due("new: count " + w, x.count(w), want[w]);
  }

  // 2
  private static void letters() {
    Noted x = new Noted();
    refused("feed below 0", x, () -> x.feed(-1), -4);
    refused("feed of 256", x, () -> x.feed(256), -6);
    due("feed of 0", x.feed(0), 1);
    due("feed of 255", x.feed(255), 2);
    for (int k = 3; k <= 96; k++) due("feed " + k, x.feed('g'), k);
    refused("feed of the 97th", x, () -> x.feed('g'), -6);
    refused("feed below 0 ahead of no room", x, () -> x.feed(-1), -4);
    due("lane of letter 0", x.lane(), -1000);
    due("no letters more", x.count(7), 0);
  }

  // 3
  private static void lanesThatCome() {
    Noted x = new Noted();
    due("one of each", tell(x, "w80;r12150307;r00200000;m13;s120;g;"), 6);
    due("letters are no more", x.count(7), 0);
    due("way", x.count(1), 80);
    due("rule", x.count(3), 1);
    due("yard", x.count(4), 3);
    due("week behind g", x.count(2), 1);
    due("runners", x.count(0), 2);
    // 109 and 120: RUNNER 0 wins and is three yards back
    due("start behind g", x.runner(0, 4), 4);
    due("told start", x.runner(1, 4), 20);
    due("wins of g", x.runner(0, 6), 1);
    due("way of one to three digits", tell(x, "w20;w200;w020;"), 3);
    due("the last way", x.count(1), 20);
    due("four runners", tell(x, "r59400099;r00052000;"), 2);
    int[] want = {5, 9, 40, 0, 99};
    for (int w = 0; w < want.length; w++) due("told runner " + w, x.runner(2, w), want[w]);
    due("least pace", x.runner(3, 2), 5);
    due("most spread", x.runner(3, 3), 20);
    due("m49", tell(x, "m49;"), 1);
    due("m01", tell(x, "m01;"), 1);
    Noted y = with("r00100000;");
    StringBuilder many = new StringBuilder();
    for (int k = 0; k < 48; k++) many.append("g;");
    due("96 letters", tell(y, many.toString()), 48);
    due("48 wins", y.runner(0, 6), 48);
  }

  private static void lanesWithAFault() {
    Object[][] faults = {
        {"", -1000}, {"w", -1001}, {"w;", -1001}, {"w1234;", -1004}, {"w12", -1003}, {"w100", -1004}, {"g", -1001}, {"g1;", -1001},
        {"g;;", -1002}, {";", -1000}, {"q", -1000}, {"m1;", -1002}, {"m123;", -1003}, {"s01;", -1003}, {"s0123;", -1004},
        {"r0010000;", -1008}, {"r001000000;", -1009}, {"r00100000", -1009}, {"w1/;", -1002}, {"w1:;", -1002}, {"W80;", -1000},
        {"g;g;r", -1005}, {"w300;q", -1005}, {"w 80;", -1001},
        {"w19;", -2000}, {"w201;", -2000}, {"w0;", -2000}, {"m51;", -2000}, {"m10;", -2000}, {"s100;", -2000}, {"g;s300;w19;", -2002},
        {"r60100000;", -2000}, {"r00040000;", -2000}, {"r00410000;", -2000}, {"r00102100;", -2000},
        {"r00100000;r00100000;r00100000;r00100000;", -2030}, {"s100;r00100000;", -2000}, {"m12;w50;g;s010;w5;", -2015}};
    String before = with("r00150000;").state();
    for (Object[] f : faults) {
      Noted x = with("r00150000;");
      due("lane " + f[0], tell(x, (String) f[0]), (Integer) f[1]);
      due("letters behind a fault", x.count(7), 0);
      same("a fault: " + f[0], x.state(), before);
      for (int w = 11; w <= 16; w++) due("a fault is not counted " + w, x.count(w), 0);
    }
    Noted x = with("r00150000;");
    due("a runner told ahead in the text is there", tell(x, "r00200000;s150;"), 2);
    due("nobody who runs", tell(new Noted(), "w50;g;"), -2004);
    Noted y = with("r00150000;");
    y.set(3, 998);
    due("week 999", tell(y, "g;g;"), -2002);
    due("up to week 999", tell(y, "g;"), 1);
    due("from week 999", tell(y, "g;"), -2000);
    y.set(3, 5);
    y.run();
    due("a fault leaves what can be taken back", tell(y, "w;") + y.count(17), -1000);
    due("another fault too", tell(y, "w19;") + y.count(17), -1999);
    tell(y, "m01;");
    due("a lane leaves none", y.count(17), 0);
  }

  // 4
  private static void runners() {
    Noted x = with("r34171208;");
    int[] want = {3, 4, 17, 12, 8, 156 + 4, 0};
    for (int w = 0; w < want.length; w++) due("runner what " + w, x.runner(0, w), want[w]);
    x.run();
    due("wins", x.runner(0, 6), 1);
    refused("runner nobody", x, () -> x.runner(1, 0), -1);
    refused("runner -1", x, () -> x.runner(-1, 9), -1);
    refused("runner what 7", x, () -> x.runner(0, 7), -2);
    refused("runner what -1", x, () -> x.runner(0, -1), -2);
  }

  private static void timesOfAllKinds() {
    Noted x = with("r00150000;");
    x.set(3, 7);
    x.set(0, 93);
    int[] odd = {139, 139 - 6, 139 + 19, 139, 139 + 19 + 18, 139 + 5};
    for (int k = 0; k <= 5; k++) {
      x.kind(0, k, 9);
      due("time in an odd week of kind " + k, x.runner(0, 5), odd[k]);
    }
    x.set(3, 8);
    int[] even = {139, 139 - 7, 139 + 19, 139 + 9, 139 + 19 + 18, 139 + 9 + 5};
    for (int k = 0; k <= 5; k++) {
      x.kind(0, k, 9);
      due("time in an even week of kind " + k, x.runner(0, 5), even[k]);
    }
    x.start(0, 43);
    int[] fifty = {75, 75 - 7, 75, 75 + 9, 75 + 18, 75 + 9};
    for (int k = 0; k <= 5; k++) {
      x.kind(0, k, 9);
      due("time over fifty yards of kind " + k, x.runner(0, 5), fifty[k]);
    }
    x.start(0, 42);
    x.kind(0, 2, 9);
    due("time over 51 yards", x.runner(0, 5), 76);
    x.set(0, 20);
    x.start(0, 99);
    x.set(3, 999);
    int[] least = {1, 1, 1, 1, 19, 1};
    for (int k = 0; k <= 5; k++) {
      x.kind(0, k, 9);
      due("time over a yard of kind " + k, x.runner(0, 5), least[k]);
    }
    Noted y = with("w20;r00050099;");
    y.kind(0, 3, 4);
    due("1 at least ahead of more", y.runner(0, 5), 5);
  }

  // 5, 6
  private static void startsAndKinds() {
    Noted x = with("r12150307;r00150300;");
    due("start was", x.start(0, 99), 7);
    due("start is", x.runner(0, 4), 99);
    due("start 0", x.start(0, 0), 99);
    refused("start nobody", x, () -> x.start(2, -1), -1);
    refused("start below", x, () -> x.start(0, -1), -4);
    refused("start above", x, () -> x.start(0, 100), -6);
    due("kind was", x.kind(0, 5, 9), 12);
    due("kind is", x.kind(0, 0, 0), 59);
    refused("kind nobody", x, () -> x.kind(2, 6, -1), -1);
    refused("kind 6", x, () -> x.kind(0, 6, -1), -2);
    refused("kind -1", x, () -> x.kind(0, -1, 10), -2);
    refused("figure below", x, () -> x.kind(0, 1, -1), -4);
    refused("figure above", x, () -> x.kind(0, 1, 10), -6);
    x.run();
    x.start(1, 100);
    x.kind(0, 6, 0);
    due("refused: still taken back", x.count(17), 1);
    x.start(1, 0);
    due("start leaves none", x.count(17), 0);
    x.run();
    x.kind(0, 1, 0);
    due("kind leaves none", x.count(17), 0);
  }

  // 7
  private static void settings() {
    Noted x = with("r00150300;");
    int[] first = {100, 0, 2, 0};
    int[] lo = {20, 0, 1, 0};
    int[] hi = {200, 4, 9, 999};
    for (int w = 0; w <= 3; w++) {
      int what = w;
      due("set was " + w, x.set(w, lo[w]), first[w]);
      due("set least " + w, x.set(w, hi[w]), lo[w]);
      due("set most " + w, x.set(w, lo[w]), hi[w]);
      refused("set below " + w, x, () -> x.set(what, lo[what] - 1), w == 1 ? -2 : -4);
      refused("set above " + w, x, () -> x.set(what, hi[what] + 1), w == 1 ? -2 : -6);
    }
    refused("set what 4", x, () -> x.set(4, 0), -2);
    refused("set what -1", x, () -> x.set(-1, 0), -2);
    for (int w = 0; w <= 3; w++) {
      x.set(3, 0);
      x.run();
      x.set(w, hi[w] + 1);
      due("refused set: still taken back " + w, x.count(17), 1);
      x.set(w, hi[w]);
      due("set leaves none " + w, x.count(17), 0);
    }
  }

  // 8
  private static void runs() {
    Noted none = new Noted();
    refused("nobody runs", none, none::run, -3);
    none.set(3, 999);
    refused("nobody runs in week 999", none, none::run, -3);
    Noted x = with("r00150000;r00140000;r00140000;");
    due("the lesser number wins", x.run(), 1);
    due("its wins", x.runner(1, 6), 1);
    due("no wins of another", x.runner(2, 6), 0);
    due("week", x.count(2), 1);
    x.set(3, 998);
    due("week 998", x.run(), 1);
    due("to week 999", x.count(2), 999);
    refused("week 999", x, x::run, -6);
  }

  private static void rules() {
    // TIMES 150, 140, 170: 1 is first, 2 is last
    int[][] want = {{10, 20, 30}, {10, 13, 30}, {10, 20, 37}, {10, 13, 37}, {11, 13, 31}};
    for (int rule = 0; rule <= 4; rule++) {
      Noted x = with("w110;r00150010;r00160020;r00220030;m" + rule + "7;");
      due("who wins by rule " + rule, x.run(), 1);
      for (int i = 0; i < 3; i++) due("start of " + i + " by rule " + rule, x.runner(i, 4), want[rule][i]);
    }
    Noted x = with("r00150005;r00300097;r00310098;m49;s199;");
    x.set(0, 200);
    due("first of all", x.run(), 0);
    due("0 at least", x.runner(0, 4), 0);
    due("99 at most", x.runner(1, 4), 99);
    due("one more", x.runner(2, 4), 99);
    x.set(1, 2);
    x.start(2, 95);
    x.run();
    due("99 at most by rule 2", x.runner(2, 4), 99);
    // both by one: less ahead of more
    Noted alone = with("r00150002;m35;");
    alone.run();
    due("first and last in one", alone.runner(0, 4), 5);
    Noted ties = with("r00150000;r00150000;r00150000;m35;");
    ties.run();
    due("of several last the greatest number", ties.runner(2, 4), 5);
    due("the middle one stays", ties.runner(1, 4), 0);
  }

  // 9
  private static void orders() {
    due("order of nobody", new Noted().order(), 0);
    Noted x = with("r00150000;r00140000;r00150000;r00100000;");
    // 3, 1, 0, 2
    due("order", x.order(), 2013);
    due("order changes nothing", x.count(2), 0);
    due("order of one", with("r00150000;").order(), 0);
    due("order of two", with("r00150000;r00140000;").order(), 1);
  }

  // 10, 11
  private static void likelihoods() {
    // 0 takes 95, 100, 105; 1 takes 97, 100, 103: 0 is first at 95, at 100 but for 97, never at 105
    Noted x = with("r00100500;r00100300;");
    fractionDue("likely 0", x.likely(0, 0), x.likely(0, 1), 5, 8);
    fractionDue("likely 1", x.likely(1, 0), x.likely(1, 1), 3, 8);
    fractionDue("ordered 0, 1", x.ordered(10, 0), x.ordered(10, 1), 5, 8);
    fractionDue("ordered 1, 0", x.ordered(1, 0), x.ordered(1, 1), 3, 8);
    refusedLong("likely nobody", x, () -> x.likely(2, 2), -1);
    refusedLong("likely part 2", x, () -> x.likely(0, 2), -2);
    refusedLong("likely part -1", x, () -> x.likely(0, -1), -2);
    int[] no = {0, 11, 20, 2, 110, 100, 101, 201, -10, -1, Integer.MIN_VALUE, Integer.MAX_VALUE};
    for (int d : no) refusedLong("ordered " + d, x, () -> x.ordered(d, 2), -1);
    refusedLong("ordered part", x, () -> x.ordered(10, 2), -2);
    Noted none = new Noted();
    fractionDue("ordered of nobody", none.ordered(0, 0), none.ordered(0, 1), 1, 1);
    refusedLong("ordered 1 of nobody", none, () -> none.ordered(1, 0), -1);
    Noted y = with("r00100500;r00100500;r00100500;r00100500;");
    // 0 is first at 95; at 100 but for a 95 of three; at 105 if all others are: 64 + 2 * 27 + 1
    fractionDue("likely 0 of four", y.likely(0, 0), y.likely(0, 1), 119, 256);
    // 3 is first at 95 if all others take more, at 100 if all others take 105
    fractionDue("likely 3 of four", y.likely(3, 0), y.likely(3, 1), 29, 256);
    long sum = 0;
    for (int code = 0; code < 24; code++) {
      List<Integer> left = new ArrayList<>(List.of(0, 1, 2, 3));
      int d = 0;
      for (int k = 4, rest = code; k > 0; rest /= k, k--) d = 10 * d + left.remove(rest % k);
      sum += y.ordered(d, 0) * (256 / y.ordered(d, 1));
    }
    due("all orders together", sum, 256);
    Noted slow = with("w20;r00050899;r00050099;");
    // low and time are 1 both, the high is 9
    fractionDue("1 at least", slow.likely(0, 0), slow.likely(0, 1), 3, 4);
  }

  // 12
  private static void closeness() {
    // all ways of 95, 100, 100, 105 against 97, 100, 100, 103: 2+5+5+8 + 2*(3+0+0+3) + 8+5+5+2
    Noted x = with("r00100500;r00100300;");
    fractionDue("close", x.close(0, 0), x.close(0, 1), 13, 4);
    fractionDue("uneven", x.close(1, 0), x.close(1, 1), 1, 4);
    refusedLong("close what", x, () -> x.close(2, 0), -2);
    refusedLong("close part", x, () -> x.close(0, 2), -2);
    refusedLong("close what below", x, () -> x.close(-1, 0), -2);
    Noted one = with("r00100500;");
    refusedLong("close of one", one, () -> one.close(0, 0), -3);
    refusedLong("uneven of one", one, () -> one.close(1, 0), -3);
    refusedLong("close what of one", one, () -> one.close(2, 0), -2);
    tell(one, "r00100500;r00200000;");
    fractionDue("close of three", one.close(0, 0), one.close(0, 1), 15, 4);
    fractionDue("uneven of three", one.close(1, 0), one.close(1, 1), 11, 16);
    Noted even = with("r00100000;r00100000;");
    fractionDue("close of none", even.close(0, 0), even.close(0, 1), 0, 1);
  }

  // 13
  private static void surely() {
    Noted x = with("r00100500;r00100300;r00110400;r00200300;");
    due("sure of none", x.sure(0), 0);
    due("never", x.sure(1), 8 + 4);
    x.start(3, 90);
    due("sure", x.sure(0), 8);
    due("never but one", x.sure(1), 7);
    refused("sure what", x, () -> x.sure(2), -2);
    refused("sure what below", x, () -> x.sure(-1), -2);
    Noted none = new Noted();
    due("sure of nobody", none.sure(0), 0);
    due("never of nobody", none.sure(1), 0);
  }

  // 14
  private static void evening() {
    // 0 takes 95, 100, 105; by 12 yards 1 takes 100, 105, 110 (15 of 16), by 13 99, 104, 109 (11), by 17 94, 99, 104 (5)
    Noted x = with("r00100500;r00120550;");
    due("even", x.even(0, 1), 13);
    due("even stays", x.runner(1, 4), 50);
    // 1 takes 55, 60, 65; by 34 yards 0 takes 61, 66, 71 (15 of 16 for 1), by 35 60, 65, 70 (11), by 40 55, 60, 65 (5)
    due("even turned", x.even(1, 0), 35);
    for (int s = 0; s <= 60; s += 7) {
      x.start(0, s);
      due("even by " + s, x.even(0, 1), bruteEven(x, 0, 1));
    }
    x.start(0, 0);
    Noted y = with("r00100000;r00100000;");
    due("even of several the least", y.even(0, 1), 0);
    refused("even one twice", x, () -> x.even(0, 0), -1);
    refused("even nobody", x, () -> x.even(0, 2), -1);
    refused("even nobody first", x, () -> x.even(-1, 0), -1);
    tell(x, "r00050000;");
    due("even of these two alone", x.even(0, 1), 13);
  }

  private static int bruteEven(Noted x, int one, int other) {
    Noted y = x.twin();
    int best = 0;
    int least = 99;
    for (int s = 0; s <= 99; s++) {
      y.start(other, s);
      int far = Math.abs(y.ahead(one, other) - 8);
      if (far < least) {
        least = far;
        best = s;
      }
    }
    return best;
  }

  // 15
  private static void evenestStarts() {
    Noted x = with("r00100500;r00140500;r00120500;");
    for (int i = 0; i < 3; i++) x.start(i, 33);
    int[] want = bruteStarts(x, 20);
    for (int i = 0; i < 3; i++) due("starts by 20 of " + i, x.starts(20, i), want[i]);
    due("starts stay", x.count(5), 99);
    due("no fourth", x.starts(20, 3), -9);
    due("no such i", x.starts(50, Integer.MAX_VALUE), -9);
    refused("step 4", x, () -> x.starts(4, 0), -4);
    refused("i below", x, () -> x.starts(51, -1), -4);
    refused("step 51", x, () -> x.starts(51, 0), -6);
    due("step 50", x.starts(50, 0) % 50, 0);
    Noted two = with("r00100000;r00200000;");
    // one of two is always sure, so the first of all
    due("of several the first", two.starts(5, 0) + 100 * two.starts(5, 1), 0);
    Noted same = with("r00100900;r00200900;");
    int[] wanted = bruteStarts(same, 33);
    due("starts by 33 of 0", same.starts(33, 0), wanted[0]);
    due("starts by 33 of 1", same.starts(33, 1), wanted[1]);
    Noted none = new Noted();
    refused("starts of nobody", none, () -> none.starts(5, 0), -3);
    Noted four = with("r00100000;r00100000;r00100000;r00100000;");
    refused("starts of four", four, () -> four.starts(5, 0), -3);
    refused("starts of four by 51", four, () -> four.starts(51, 0), -6);
  }

  private static int[] bruteStarts(Noted x, int step) {
    int n = x.count(0);
    int[] best = null;
    long least = Long.MAX_VALUE;
    for (int a = 0; a <= 99; a += step) {
      for (int b = 0; b <= 99; b += step) {
        for (int c = 0; c <= (n > 2 ? 99 : 0); c += step) {
          Noted y = copyOfThree(x, new int[] {a, b, c});
          long uneven = y.close(1, 0) * (256 / y.close(1, 1));
          if (uneven < least) {
            least = uneven;
            best = new int[] {a, b, c};
          }
        }
      }
    }
    return best;
  }

  private static Noted copyOfThree(Noted asked, int[] starts) {
    Noted x = asked.twin();
    StringBuilder s = new StringBuilder();
    for (int i = 0; i < x.count(0); i++) {
      s.append('r').append(x.runner(i, 0)).append(x.runner(i, 1)).append(two(x.runner(i, 2))).append(two(x.runner(i, 3)));
      s.append(two(starts[i])).append(';');
    }
    return with(s.toString());
  }

  private static String two(int v) {
    return v < 10 ? "0" + v : "" + v;
  }

  // 16
  private static void loads() {
    // 106, 110, 114 of 1: LOADED by 1 it takes 104, by 2 109 (12 of 16 to 4), by 3 113 (4 to 12)
    Noted x = with("r33100000;r00110400;");
    due("load", x.load(0), 2);
    due("load stays", x.runner(0, 0) * 10 + x.runner(0, 1), 33);
    due("load of one alone", with("r33100000;").load(0), 0);
    refused("load nobody", x, () -> x.load(2), -1);
    refused("load -1", x, () -> x.load(-1), -1);
  }

  // 17
  private static void onRaces() {
    Noted x = with("r00150010;r00160010;m32;");
    // 135, 144: 0 wins, 8 and 12: 138, 140: 0 wins, 6 and 14: 141, 137: 1 wins, 8 and 12 again
    int[] starts = {10, 8, 6, 8, 6, 8};
    int[] wins = {0, 1, 2, 2, 3, 3};
    for (int n = 0; n <= 5; n++) {
      due("start on " + n, x.on(0, n, 0), starts[n]);
      due("wins on " + n, x.on(0, n, 1), wins[n]);
    }
    x.run();
    due("wins more than now", x.on(0, 1, 1), 1);
    due("on stays", x.count(2), 1);
    due("on 60", x.on(1, 60, 1) + x.on(0, 60, 1), 60);
    refused("on nobody", x, () -> x.on(2, -1, 2), -1);
    refused("on -1", x, () -> x.on(0, -1, 2), -4);
    refused("on 61", x, () -> x.on(0, 61, 2), -6);
    refused("on what", x, () -> x.on(0, 1, 2), -2);
  }

  // 18
  private static void settling() {
    Noted none = new Noted();
    refused("nobody settles", none, none::settles, -3);
    due("settled from the first", with("r00150010;").settles(), 0);
    // 6, 3, 0: changed in races 0, 1 and 2 (from 7: 4, 1, 0)
    due("settles at 3", with("r00050007;r00400000;m13;").settles(), 3);
    due("never settles", with("r00150010;r00160010;m32;").settles(), -9);
    due("at the last", with("r00050059;r00400000;m11;").settles(), 59);
    due("not at the last", with("r00050060;r00400000;m11;").settles(), -9);
    due("one alone by rule 3", with("r00150003;m35;").settles(), 1);
  }

  // 19
  private static void bestRules() {
    Noted x = with("r00150010;r00160010;m02;");
    // gaps 9 each by rule 0; 1 and 2 bring them nearer
    due("best for one is the least", x.best(1), 0);
    // second race by rules 0 .. 4: 9; 138:144; 135:140 (141 yards 88 * 16); 138:140 (88); 138:142 (89)
    due("best for two", x.best(2), 3);
    due("best stays", x.count(3), 0);
    x.set(1, 4);
    due("best under another rule", x.best(2), 3);
    due("best for 60", x.best(60) >= 0 ? 1 : 0, 1);
    refused("best 0", x, () -> x.best(0), -4);
    refused("best 61", x, () -> x.best(61), -6);
    Noted one = with("r00150010;");
    refused("best of one", one, () -> one.best(1), -3);
    refused("best of one for 61", one, () -> one.best(61), -6);
  }

  // 20
  private static void paying() {
    Noted x = with("r29150000;r00150000;m02;");
    // as a RUNNER 0 wins all, as a SLY but in odd weeks
    due("pays", x.pays(0, 5), 2 - 5);
    due("pays for 1 of figure 0", x.pays(1, 5), 0);
    due("pays in none", x.pays(0, 0), 0);
    due("pays in 60", x.pays(0, 60), -30);
    due("pays stays", x.runner(0, 0), 2);
    // who wins is four back: holding back first wins later
    Noted y = with("r05150000;r00160000;m19;");
    long sly = winsAs(y, 3, 20);
    long plain = winsAs(y, 0, 20);
    due("pays as both told", y.pays(0, 20), sly - plain);
    refusedHigh("pays nobody", x, () -> x.pays(2, -1), -1);
    refusedHigh("pays below", x, () -> x.pays(0, -1), -4);
    refusedHigh("pays above", x, () -> x.pays(0, 61), -6);
  }

  private static long winsAs(Noted x, int kind, int n) {
    int was = x.kind(0, kind, x.runner(0, 1));
    long wins = x.on(0, n, 1);
    x.kind(0, was / 10, was % 10);
    return wins;
  }

  // 21, 22
  private static void worths() {
    Noted x = with("r00150033;r25200000;r50100000;");
    due("worth", x.worth(0, 10), 15);
    due("worth of 0", x.worth(0, 0), 0);
    due("worth cut", x.worth(0, 1), 2);
    due("worth of 99", x.worth(0, 99), 149);
    // 200 + 12 less 160 + 7
    due("worth for the tired", x.worth(1, 20), 45);
    due("worth of letting", x.worth(2, 1), 6);
    due("worth beyond the way", x.set(0, 50) + x.worth(0, 99) - 100, 74);
    x.set(0, 100);
    due("worth stays", x.runner(0, 4), 33);
    refusedHigh("worth nobody", x, () -> x.worth(3, -1), -1);
    refusedHigh("worth below", x, () -> x.worth(0, -1), -4);
    refusedHigh("worth above", x, () -> x.worth(0, 100), -6);
    // 10 yards are 15 to 0; to 1 6 are 212 less 188 and 11, 7 are 212 less 186 and 10
    due("same", x.same(0, 10, 1), 7);
    due("same of 0", x.same(0, 0, 1), 0);
    due("same for letting", x.same(0, 4, 2), 1);
    due("same is not to be had", x.same(1, 99, 0), -9);
    refused("same nobody", x, () -> x.same(0, -1, 3), -1);
    refused("same nobody first", x, () -> x.same(3, 1, 0), -1);
    refused("same one twice", x, () -> x.same(1, 1, 1), -1);
    refused("same below", x, () -> x.same(0, -1, 1), -4);
    refused("same above", x, () -> x.same(0, 100, 1), -6);
  }

  // 23
  private static void teamsOfAll() {
    // over 50 yards 50, 75, 100, 125
    Noted x = with("r00100099;r00150099;r00200099;r00250099;");
    due("teams", x.teams(0), 9);
    due("teams apart", x.teams(1), 0);
    x.set(0, 101);
    due("half is cut", x.teams(1), 0);
    Noted y = with("r00100000;r00300000;r52100070;");
    // 50, 150 and 57 (even week and START as 0): 0 and 2 against 1
    due("teams of three", y.teams(0), 5);
    due("teams of three apart", y.teams(1), 150 - 107);
    Noted two = with("r00300000;r00100000;");
    due("teams of two", two.teams(0), 1);
    due("teams of two apart", two.teams(1), 100);
    Noted tie = with("r00100000;r00100000;r00100000;r00100000;");
    due("of several the least", tie.teams(0), 3);
    refused("teams what", x, () -> x.teams(2), -2);
    Noted one = with("r00300000;");
    refused("teams of one", one, () -> one.teams(0), -3);
    refused("teams what of one", one, () -> one.teams(2), -2);
  }

  // 24
  private static void longerWays() {
    // 15 a yard less 10 yards against 10 a yard: at 30 yards 30 : 30
    Noted x = with("r00150010;r00100000;");
    due("longer: on the shortest", x.longer(0), 20);
    // 1 is first when 10 * w / 10 < 15 * (w - 10) / 10, so from 31 yards (31 : 31 is a tie, 32 : 33)
    due("longer", x.longer(1), 32);
    due("longer stays", x.count(1), 100);
    due("no way is long enough", with("r00150000;r00100000;").longer(0), -9);
    Noted half = with("r00200000;r00200000;");
    due("never", half.longer(1), -9);
    // as likely as not is enough: the lesser by 8 of 16
    Noted y = with("r00100500;r00100300;");
    due("likelier", y.longer(0), 20);
    // 18 * 20 is 24 * 15, a tie, at 200 yards; 7 * 201 is 8 * 175 cut, a tie, at 201
    due("last way", with("r00180000;r00240050;").longer(0), 200);
    due("not on the last way", with("r00070000;r00080026;").longer(0), -9);
    refused("longer nobody", x, () -> x.longer(2), -1);
  }

  // 25
  private static void fitting() {
    Noted x = with("r00150010;r00160010;m32;");
    due("fits an empty row", x.fits(0, 0), 100);
    due("least for an empty row", x.fits(0, 1), 0);
    row(x, 0, 0, 1);
    // START s of 0: wins at s, s - 2, not at s - 4 with 10, 12, 14 of 1
    int many = 0;
    int least = -9;
    Noted y = x.twin();
    for (int s = 99; s >= 0; s--) {
      y.start(0, s);
      boolean fit = y.on(0, 1, 1) == 1 && y.on(0, 2, 1) == 2 && y.on(0, 3, 1) == 2;
      if (fit) {
        many++;
        least = s;
      }
    }
    due("fits", x.fits(0, 0), many);
    due("fits some", many > 0 ? 1 : 0, 1);
    due("least that fits", x.fits(0, 1), least);
    due("the row stays", x.count(8), 3);
    due("starts stay", x.runner(0, 4), 10);
    row(x, 2);
    due("none fits", x.fits(0, 0), 0);
    due("no least", x.fits(0, 1), -9);
    refused("fits nobody", x, () -> x.fits(2, 2), -1);
    refused("fits what", x, () -> x.fits(0, 2), -2);
  }

  // 27, 28, 29
  private static void rows() {
    Noted x = with("r00150010;r00160010;m32;");
    refused("row below", x, () -> x.row(-1), -4);
    refused("row above", x, () -> x.row(100), -6);
    due("row 99", x.row(99), 1);
    due("judged at once", x.judge(), 0);
    due("no row then", x.count(8), 0);
    for (int k = 0; k < 12; k++) due("row " + k, x.row(k < 2 || k % 2 == 1 ? 0 : 1), k + 1);
    refused("row of 13", x, () -> x.row(0), -6);
    refused("row of 13 below", x, () -> x.row(-1), -4);
    due("all so", x.judge(), -9);
    due("no row behind all so", x.count(8), 0);
    row(x, 0, 0, 1, 1, 0);
    due("judged", x.judge(), 3);
    due("empty row", x.judge(), -9);
    due("judged stays", x.count(2), 0);
    row(x, 5, 6);
    due("clear", x.clear(), 2);
    due("clear of none", x.clear(), 0);
    Noted none = new Noted();
    row(none, 0);
    due("nobody wins", none.judge(), 0);
  }

  // 26
  private static void letting() {
    Noted none = new Noted();
    refused("let of nobody", none, none::let, -3);
    // 100; 96 and 9 as a SLY; 97 and 5 as LETTING: as a RUNNER 1 would be first, and 2 too
    Noted x = with("w99;r00101000;r39101004;r50101003;");
    due("let", x.let(), 2);
    x.start(2, 4);
    x.kind(2, 5, 9);
    due("let of two", x.let(), 6);
    due("let stays", x.runner(1, 0), 3);
    x.set(3, 1);
    due("let in an odd week", x.let(), 0);
    // who grows is first by that alone
    Noted y = with("r00100000;r19110000;");
    y.set(3, 20);
    due("first by its kind", y.let(), 2);
  }

  // 30
  private static void seeded() {
    Noted x = with("r00150500;r00160310;m32;");
    for (int z : new int[] {1, 0, -5, 123456789, Integer.MIN_VALUE, Integer.MAX_VALUE}) {
      for (int n : new int[] {1, 2, 7, 20}) {
        int[] want = bySeeds(n, z);
        due("seeds wins " + n + " " + z, x.seeds(1, n, z, 0), want[0]);
        due("seeds wins of 0 " + n + " " + z, x.seeds(0, n, z, 0), n - want[0]);
        due("seeds tenths " + n + " " + z, x.seeds(1, n, z, 1), want[1]);
      }
    }
    due("seeds stay", x.runner(1, 4) + x.count(2), 10);
    Noted one = with("r00150500;");
    due("seeds of one", one.seeds(0, 20, 3, 0), 20);
    due("tenths of one", one.seeds(0, 20, 3, 1), 0);
    refused("seeds nobody", x, () -> x.seeds(2, 0, 0, 2), -1);
    refused("seeds 0", x, () -> x.seeds(0, 0, 0, 2), -4);
    refused("seeds 21", x, () -> x.seeds(0, 21, 0, 2), -6);
    refused("seeds what", x, () -> x.seeds(0, 1, 0, 2), -2);
    // 0 holds back in even weeks, so the weeks go on
    Noted sly = with("r39100000;r00100002;");
    due("weeks go on in seeds", sly.seeds(0, 4, 1, 0), 0);
    sly.start(1, 0);
    due("weeks go on in seeds: two of four", sly.seeds(0, 4, 1, 0), 2);
  }

  /** WINS of 1 and tenths for two with PACES 15, 16 and SPREADS 5, 3, mended by rule 3 and 2 yards. */
  private static int[] bySeeds(int n, int seed) {
    int z = seed;
    int[] start = {0, 10};
    int[] pace = {15, 16};
    int[] spread = {5, 3};
    int wins = 0;
    int tenths = 0;
    for (int k = 0; k < n; k++) {
      int[] took = new int[2];
      for (int i = 0; i < 2; i++) {
        z = z * 1103515245 + 12345;
        int draw = ((z & 0x7fffffff) >> 16) % 4;
        took[i] = pace[i] * (100 - start[i]) / 10 + (draw == 0 ? -spread[i] : draw == 3 ? spread[i] : 0);
      }
      int first = took[0] <= took[1] ? 0 : 1;
      wins += first;
      tenths += Math.abs(took[0] - took[1]);
      start[first] = Math.max(0, start[first] - 2);
      start[1 - first] = Math.min(99, start[1 - first] + 2);
    }
    return new int[] {wins, tenths};
  }

  // 31
  private static void takenBack() {
    Noted x = with("r00150010;r00160010;m32;");
    refused("none to take back", x, x::back, -3);
    List<String> states = new ArrayList<>();
    for (int k = 0; k < 9; k++) {
      states.add(x.field());
      x.run();
      due("to be taken back", x.count(17), Math.min(6, k + 1));
    }
    x.image();
    for (int k = 8; k >= 3; k--) {
      due("back", x.back(), k - 3);
      same("back", x.field(), states.get(k));
    }
    refused("no more to take back", x, x::back, -3);
    x.run();
    x.bag(3);
    x.habit(0, 1);
    x.row(1);
    due("bags, habit, row leave it", x.count(17), 1);
    x.restore();
    due("restore leaves none", x.count(17), 0);
    x.run();
    tell(x, "g;");
    due("runs of a lane can't be taken back", x.count(17), 0);
  }

  // 32, 33, 34
  private static void bagsOfTwo() {
    Noted x = with("r00100000;r00110500;r00050000;");
    refused("bag of 0", x, () -> x.bag(0), -4);
    refused("bag of 10", x, () -> x.bag(10), -6);
    // 100 against 105, 110, 115
    due("no bags", x.bags(0, 1, 0), 0);
    due("no bags: how far", x.bags(0, 1, 1), 8);
    due("bag 1", x.bag(1), 1);
    due("bag 9", x.bag(9), 2);
    // all with 0: 120 : 0 of 16; 9 with 0: 118 : 107, 112, 117; 1 with 0: 102 : 18 more
    due("bags that tie", x.bags(0, 1, 0), 0);
    due("bag 2", x.bag(2), 3);
    due("bag 2 again", x.bag(2), 4);
    // 1 + 2 + 2 with 0 is 110 : 123, 128, 133; 9 is 118 : 115, 120, 125: 12 of 16; 9 + 1 is 120 : 113, 118, 123: 4
    due("bags of several the least", x.bags(0, 1, 0), 2);
    due("how far", x.bags(0, 1, 1), 4);
    // 4 of 14 pounds with 1 are 113, 118, 123 : 120, so 12 of 16
    due("bags turned", x.bags(1, 0, 0), 4 + 8);
    due("bags turned: how far", x.bags(1, 0, 1), 4);
    due("bag 5", x.bag(3), 5);
    due("bag 6", x.bag(9), 6);
    refused("bag 7", x, () -> x.bag(9), -6);
    refused("bag 7 of 0", x, () -> x.bag(0), -4);
    refused("bags nobody", x, () -> x.bags(0, 3, 2), -1);
    refused("bags one twice", x, () -> x.bags(1, 1, 0), -1);
    refused("bags what", x, () -> x.bags(0, 1, 2), -2);
    due("times stay", x.runner(0, 5), 100);
    due("empty", x.empty(), 6);
    due("empty of none", x.empty(), 0);
    due("behind empty", x.bags(0, 1, 1), 8);
  }

  // 35, 36, 37
  private static void cups() {
    Noted x = with("r00100500;r00100300;r00100500;r00100300;");
    due("ahead", x.ahead(0, 1), 10);
    due("ahead turned", x.ahead(1, 0), 6);
    // 1 ahead of 2: 97: 12 of 16 quarters .. 97 * 3/4, 100 * 3/4, 103 * 1/4
    due("ahead of a greater number", x.ahead(1, 2), 10);
    // the same, the lesser ahead at ties: 1 + 2 * 3 / 4 + ..: 4 + 2 * 3 + 1
    due("ahead of the same", x.ahead(0, 2), 11);
    refused("ahead nobody", x, () -> x.ahead(0, 4), -1);
    refused("ahead one twice", x, () -> x.ahead(2, 2), -1);
    int[][] met = {{0, 1, 2, 3}, {0, 2, 1, 3}, {0, 3, 1, 2}};
    for (int who = 0; who < 4; who++) {
      int best = 0;
      long most = -1;
      for (int b = 0; b < 3; b++) {
        long want = cup(x, who, met[b]);
        long g = gcd(want, 4096);
        fractionDue("cup of " + who + " by " + b, x.cup(who, b, 0), x.cup(who, b, 1), want / g, 4096 / g);
        if (want > most) {
          most = want;
          best = b;
        }
      }
      due("bracket of " + who, x.bracket(who), best);
    }
    refusedLong("cup nobody", x, () -> x.cup(4, 3, 2), -1);
    refusedLong("cup bracket", x, () -> x.cup(0, 3, 0), -2);
    refusedLong("cup bracket below", x, () -> x.cup(0, -1, 0), -2);
    refusedLong("cup part", x, () -> x.cup(0, 0, 2), -2);
    refused("bracket nobody", x, () -> x.bracket(4), -1);
    Noted three = with("r00100500;r00100300;r00100500;");
    refusedLong("cup of three", three, () -> three.cup(0, 0, 0), -3);
    refusedLong("cup part of three", three, () -> three.cup(0, 0, 2), -2);
    refused("bracket of three", three, () -> three.bracket(0), -3);
    refused("bracket nobody of three", three, () -> three.bracket(3), -1);
  }

  private static long cup(Noted x, int who, int[] met) {
    int at = 0;
    while (met[at] != who) at++;
    int against = met[at ^ 1];
    int a = met[at < 2 ? 2 : 0];
    int b = met[at < 2 ? 3 : 1];
    return x.ahead(who, against) * (x.ahead(a, b) * x.ahead(who, a) + x.ahead(b, a) * x.ahead(who, b));
  }

  private static long gcd(long a, long b) {
    return b == 0 ? a : gcd(b, a % b);
  }

  // 38, 39
  private static void leagues() {
    Noted x = with("r00100500;r00100300;r00110500;");
    // 10 of 16 against 1; 95, 100, 105 against 105, 110, 115: 16 of 16
    fractionDue("league 0", x.league(0, 0), x.league(0, 1), 13, 8);
    fractionDue("league 1", x.league(1, 0), x.league(1, 1), 11, 8);
    fractionDue("league 2", x.league(2, 0), x.league(2, 1), 0, 1);
    due("table", x.ranks(), 210);
    x.start(2, 50);
    due("table turned", x.ranks(), 102);
    Noted ties = with("r00200000;r00100000;r00100000;r00100000;");
    ties.start(0, 0);
    due("table of four", ties.ranks(), 321);
    Noted round = with("r00100000;r00100000;");
    fractionDue("league of a tie", round.league(0, 0), round.league(0, 1), 1, 1);
    Noted one = with("r00100000;");
    fractionDue("league of one", one.league(0, 0), one.league(0, 1), 0, 1);
    due("table of one", one.ranks(), 0);
    due("table of nobody", new Noted().ranks(), 0);
    refusedLong("league nobody", x, () -> x.league(3, 2), -1);
    refusedLong("league part", x, () -> x.league(0, 2), -2);
  }

  // 40
  private static void holding() {
    // 100 against 103: by rule 1 the first is nine back; holding back 5 leaves the first place to 1
    Noted x = with("r05100010;r00100007;m19;");
    // neither: 0 ahead now (90 : 93), then 99 : 93, 1 ahead: 16 to each
    // 0 holds: 95 : 93, 1 ahead now, then 90 : 100, 0 ahead: 16; 1 has FIGURE 0: all alike
    due("neither", x.hold(0, 1), 0);
    // 0 is ahead anyway when it holds not, and too slow by no means: by rule 0 nothing is had
    Noted even = with("r01100000;r01100000;m09;");
    due("nothing to be had", even.hold(0, 1), 0);
    int[] seen = new int[5];
    for (int code = 0; code < 4000; code++) {
      String lane = "r" + code % 6 + code / 6 % 10 + "1003" + two(code / 7 % 20) + ";r" + code / 60 % 6 + code / 11 % 10 + "1002"
          + two(code / 13 % 20) + ";m" + code / 3 % 5 + (1 + code / 17 % 9) + ";";
      Noted y = with(lane);
      int want = held(y, 0, 1);
      int got = y.hold(0, 1);
      due("hold of " + lane, got, want);
      due("hold turned of " + lane, y.hold(1, 0), held(y, 1, 0));
      seen[want < 0 ? 4 : want]++;
    }
    for (int k = 0; k < 5; k++) due("hold comes to each answer: " + k, seen[k] > 0 ? 1 : 0, 1);
    refused("hold nobody", x, () -> x.hold(0, 2), -1);
    refused("hold one twice", x, () -> x.hold(1, 1), -1);
  }

  /** HOLD by calls alone: a bag is no help here, so PACES stand for who holds back. */
  private static int held(Noted x, int one, int other) {
    int[] worth = new int[4];
    for (int pair = 0; pair < 4; pair++) {
      int[] time = {x.runner(0, 5), x.runner(1, 5)};
      if (pair / 2 == 1) time[one] += x.runner(one, 1);
      if (pair % 2 == 1) time[other] += x.runner(other, 1);
      worth[pair] = sixteenths(time, x.runner(0, 3), x.runner(1, 3), one);
      int first = time[0] <= time[1] ? 0 : 1;
      int[] start = {x.runner(0, 4), x.runner(1, 4)};
      int rule = x.count(3);
      int yard = x.count(4);
      if (rule == 1 || rule == 3 || rule == 4) start[first] = Math.max(0, start[first] - yard);
      if (rule == 2 || rule == 3) start[1 - first] = Math.min(99, start[1 - first] + yard);
      if (rule == 4) start[1 - first] = Math.min(99, start[1 - first] + 1);
      Noted y = copyOfThree(x, start);
      y.set(3, x.count(2) + 1);
      worth[pair] += y.ahead(one, other);
    }
    for (int pair = 0; pair < 4; pair++) {
      if (worth[pair] >= worth[pair ^ 2] && 32 - worth[pair] >= 32 - worth[pair ^ 1]) return pair;
    }
    return -9;
  }

  private static int sixteenths(int[] time, int spread0, int spread1, int one) {
    int ahead = 0;
    for (int a = 0; a < 4; a++) {
      for (int b = 0; b < 4; b++) {
        int t0 = a == 0 ? Math.max(1, time[0] - spread0) : a == 3 ? time[0] + spread0 : time[0];
        int t1 = b == 0 ? Math.max(1, time[1] - spread1) : b == 3 ? time[1] + spread1 : time[1];
        if ((t0 <= t1 ? 0 : 1) == one) ahead++;
      }
    }
    return ahead;
  }

  // 41
  private static void legsOfTwo() {
    Noted x = with("r00150050;r29150000;r50150033;");
    // 50 and 10 yards by 0: 90, 60 + 0; by 1: 90 + 9 * 10 / 20 = 94, 60
    due("legs: who", x.legs(1, 0, 10, 0), 0);
    due("legs: how long", x.legs(1, 0, 10, 1), 150);
    due("of as long the first told", x.legs(1, 0, 0, 0), 1);
    due("and the other way round", x.legs(0, 1, 0, 0), 0);
    due("without start: letting takes 5 more", x.legs(0, 2, 0, 1), 155);
    x.set(0, 21);
    // half is 10; by 20 more the other runs a yard
    due("a yard at least", x.legs(0, 2, 20, 1), 45 + 1 + 5);
    due("the rest of an odd way", x.legs(0, 1, 0, 1), 15 + 16);
    refused("legs nobody", x, () -> x.legs(0, 3, -1, 2), -1);
    refused("legs one twice", x, () -> x.legs(0, 0, -1, 2), -1);
    refused("legs below", x, () -> x.legs(0, 1, -1, 2), -4);
    refused("legs above", x, () -> x.legs(0, 1, 21, 2), -6);
    refused("legs what", x, () -> x.legs(0, 1, 20, 2), -2);
  }

  // 42, 43
  private static void betting() {
    Noted x = with("r00100500;r00100300;");
    row(x, 1, 9);
    // 5/8 * 2 against 3/8 * 10
    due("bet", x.bet(), 1);
    fractionDue("bets", x.bets(0), x.bets(1), 15, 4);
    row(x, 2, 4);
    // 15/8 both
    due("bet: of several the least", x.bet(), 0);
    fractionDue("bets that tie", x.bets(0), x.bets(1), 15, 8);
    due("the row stays", x.count(8), 2);
    refusedLong("bets part", x, () -> x.bets(2), -2);
    int[][] no = {{}, {1}, {1, 2, 3}, {0, 5}, {5, 10}, {10, 1}, {1, 0}};
    for (int[] numbers : no) {
      row(x, numbers);
      refused("no bet of " + numbers.length, x, x::bet, -3);
      refusedLong("no bets of " + numbers.length, x, () -> x.bets(2), -3);
      due("the row stays then", x.count(8), numbers.length);
    }
    Noted none = new Noted();
    refused("nobody to bet on", none, none::bet, -3);
    refusedLong("nobody to bet on: bets", none, () -> none.bets(0), -3);
  }

  // 44, 45, 46
  private static void habits() {
    Noted x = with("r00150010;r00160010;r00250010;m32;");
    // 135, 144, 225
    due("tried in none", x.tried(0, 0), 0);
    due("no better in none", x.tried(0, 1), 0);
    due("tried without clauses", x.tried(3, 0), 27);
    due("by rule it is less", x.tried(3, 1), 0);
    due("clause", x.habit(2, 4), 1);
    // others than the first and the last: 1 by 14 yards 137 : 135, then by 18 131 : 135, then 0 by 14 129 : 131
    due("tried by others", x.tried(3, 0), 9 + 2 + 4);
    due("tried by others once more", x.tried(4, 0), 9 + 2 + 4 + 2);
    due("forget", x.forget(), 1);
    x.habit(0, -4);
    // 6: 141 : 144, 3; 2: 147 : 144, 3
    due("tried by the first", x.tried(3, 0), 9 + 3 + 3);
    x.forget();
    x.habit(1, 9);
    due("tried by the last", x.tried(3, 0), 27);
    x.forget();
    x.habit(3, 9);
    x.habit(3, 9);
    // 28, 46: 108 : 115, 81 : 86
    due("tried by all", x.tried(3, 0), 9 + 7 + 5);
    x.forget();
    x.habit(0, -9);
    x.habit(0, -9);
    x.habit(0, 9);
    // one behind the other, held: 10, 1, 0, 9: 136 : 144
    due("one behind the other", x.tried(2, 0), 9 + 8);
    due("better or not", x.tried(2, 1), 0);
    due("fourth clause", x.habit(3, 0), 4);
    refused("fifth clause", x, () -> x.habit(0, 0), -6);
    refused("fifth clause whom", x, () -> x.habit(4, -10), -2);
    refused("fifth clause below", x, () -> x.habit(0, -10), -4);
    due("clauses", x.count(10), 4);
    due("forget four", x.forget(), 4);
    due("forget none", x.forget(), 0);
    refused("habit whom -1", x, () -> x.habit(-1, 0), -2);
    refused("habit whom 4", x, () -> x.habit(4, 0), -2);
    refused("habit below", x, () -> x.habit(0, -10), -4);
    refused("habit above", x, () -> x.habit(0, 10), -6);
    x.set(1, 0);
    x.habit(0, -4);
    due("better than rule 0", x.tried(3, 1), 1);
    due("tried stays", x.runner(0, 4) + x.count(2), 10);
    refused("tried below", x, () -> x.tried(-1, 2), -4);
    refused("tried above", x, () -> x.tried(61, 2), -6);
    refused("tried what", x, () -> x.tried(60, 2), -2);
    Noted one = with("r00150010;");
    refused("tried of one", one, () -> one.tried(1, 0), -3);
    refused("tried what of one", one, () -> one.tried(1, 2), -2);
    Noted two = with("r00150010;r00160010;");
    two.habit(2, 9);
    due("of two nobody else is there", two.tried(3, 0), 27);
  }

  // 47
  private static void hadSoMany() {
    Noted x = with("r00150010;r00160010;m32;");
    for (int m = 0; m <= 4; m++) {
      int many = 0;
      int least = -9;
      for (int s = 99; s >= 0; s--) {
        x.start(0, s);
        if (x.on(0, 4, 1) == m) {
          many++;
          least = s;
        }
      }
      x.start(0, 10);
      due("had " + m, x.had(0, 4, m, 0), many);
      due("least had " + m, x.had(0, 4, m, 1), least);
      x = with("r00150010;r00160010;m32;");
    }
    Noted y = with("r00150010;r00160010;m32;");
    due("in none all", y.had(0, 0, 0, 0), 100);
    Noted slow = with("r00400000;r00050000;");
    due("had by 88 yards and more", slow.had(0, 60, 60, 0) + slow.had(0, 1, 1, 0), 24);
    due("no least", slow.had(1, 3, 2, 1), -9);
    due("had stays", y.runner(0, 4), 10);
    refused("had nobody", y, () -> y.had(2, -1, 0, 2), -1);
    refused("had n below", y, () -> y.had(0, -1, 0, 2), -4);
    refused("had m below", y, () -> y.had(0, 61, -1, 2), -4);
    refused("had n above", y, () -> y.had(0, 61, 0, 2), -6);
    refused("had m above", y, () -> y.had(0, 3, 4, 2), -6);
    refused("had what", y, () -> y.had(0, 3, 3, 2), -2);
  }

  // 48, 49, 50
  private static void pastTimes() {
    Noted x = with("r00150000;");
    due("all fit no times", x.past(0, 0), 60);
    due("least of all", x.past(0, 1), 0);
    x.set(3, 5);
    // weeks 5 and 6: a GROWER less 2, 3 with FIGURE 5; else TIRED and LOADED never less
    due("time told", x.time(148), 1);
    // 148 in week 5: FIGURE 4 and 5 (20 / 10, 25 / 10)
    due("past of one time", x.past(0, 0), 2);
    due("least of one time", x.past(0, 1), 14);
    due("time told again", x.time(147), 2);
    due("past", x.past(0, 0), 1);
    due("least past", x.past(0, 1), 15);
    due("told times stay", x.count(18), 2);
    due("past stays", x.runner(0, 0) * 10 + x.runner(0, 1), 0);
    due("wipe", x.wipe(), 2);
    due("wipe of none", x.wipe(), 0);
    x.time(150);
    x.time(154);
    // SLY with 4; nobody else changes so from an odd week to an even one
    due("past of the sly", x.past(0, 0), 1);
    due("least past of the sly", x.past(0, 1), 34);
    x.wipe();
    x.time(0);
    due("past of none", x.past(0, 0), 0);
    due("least past of none", x.past(0, 1), -9);
    for (int k = 2; k <= 6; k++) due("time " + k, x.time(999), k);
    refused("time 7", x, () -> x.time(999), -6);
    refused("time 7 below", x, () -> x.time(-1), -4);
    x.wipe();
    refused("time below", x, () -> x.time(-1), -4);
    refused("time above", x, () -> x.time(1000), -6);
    refused("past nobody", x, () -> x.past(1, 2), -1);
    refused("past what", x, () -> x.past(0, 2), -2);
  }

  // 51, 52
  private static void images() {
    Noted x = with("w90;r12150307;r34160408;m37;g;");
    refused("no image", x, x::restore, -3);
    x.bag(4);
    x.bag(2);
    x.habit(0, 3);
    x.habit(3, -9);
    String kept = x.field();
    int bags = x.bags(0, 1, 1);
    int tried = x.tried(9, 0);
    due("image", x.image(), 1);
    x.bag(9);
    x.forget();
    x.habit(1, 9);
    tell(x, "w50;m11;r00100000;g;g;");
    x.kind(0, 5, 5);
    x.set(3, 77);
    due("restore", x.restore(), 1);
    same("restored", x.field(), kept);
    due("bags restored", x.bags(0, 1, 1), bags);
    due("habit restored", x.tried(9, 0), tried);
    x.feed('w');
    x.row(7);
    x.time(8);
    x.run();
    x.feed(-1);
    int below = x.count(14);
    due("restored again", x.restore(), 1);
    due("letters stay", x.count(7), 1);
    due("row stays", x.count(8), 1);
    due("times stay", x.count(18), 1);
    due("refusals stay", x.count(14), below);
    due("runs do not", x.count(17), 0);
    x.empty();
    x.image();
    x.bag(1);
    x.restore();
    due("a later image is the image", x.count(9), 0);
    x.set(3, 40);
    due("image tells the week", x.image(), 40);
    Noted none = new Noted();
    none.image();
    tell(none, "r00100000;");
    none.restore();
    due("nobody again", none.count(0), 0);
    refused("nobody again: runner", none, () -> none.runner(0, 0), -1);
  }

  // 53
  private static void counts() {
    Noted x = with("w90;r12150307;r34160408;m37;g;");
    x.feed('w');
    x.feed('w');
    x.feed('w');
    x.row(1);
    x.row(1);
    x.bag(1);
    x.habit(0, 0);
    x.habit(0, 0);
    x.run();
    x.time(4);
    x.runner(9, 0);
    x.runner(0, 9);
    x.runner(0, 9);
    for (int k = 0; k < 3; k++) x.restore();
    for (int k = 0; k < 4; k++) x.row(-1);
    for (int k = 0; k < 6; k++) x.row(100);
    int[] want = {2, 90, 2, 3, 7, -1, 2, 3, 2, 1, 2, 1, 2, 3, 4, 0, 6, 1, 1};
    for (int w = 0; w < want.length; w++) {
      if (w != 5) due("count " + w, x.count(w), want[w]);
    }
    due("all starts", x.count(5), x.runner(0, 4) + x.runner(1, 4));
    due("all wins", x.count(6), x.runner(0, 6) + x.runner(1, 6));
    for (int w : new int[] {-1, 19, 100, Integer.MIN_VALUE, Integer.MAX_VALUE}) due("count " + w, x.count(w), -9);
    due("-9 is no refusal", x.count(12), 2);
    x.likely(9, 0);
    x.worth(9, 0);
    due("far refusals are counted too", x.count(11), 3);
  }
}
