import java.math.BigInteger;
import java.util.ArrayList;
import java.util.List;

/**
 * The boundary cases that the document names, promise by promise: the least and the greatest that is taken and what comes
 * of it, what stands just beside, empty and full stores, where a number is held, where one wraps around. What is refused,
 * and that a refusal changes nothing, is looked at in RefusalTest.
 */
public final class EdgeTest {
  private static final List<String> wrong = new ArrayList<>();
  private static int looked = 0;

  public static void main(String[] args) {
    aNewObject();
    letters();
    lettersOfALane();
    statementsOfALane();
    lanesAsAWhole();
    times();
    startsAndKinds();
    settings();
    runs();
    mended();
    orders();
    likelihoods();
    closeness();
    evening();
    evenestStarts();
    loads();
    onRaces();
    settling();
    bestRules();
    paying();
    worths();
    teams();
    longerWays();
    fitting();
    letting();
    rows();
    seeds();
    back();
    bags();
    cups();
    leagues();
    holding();
    legs();
    betting();
    habits();
    had();
    past();
    images();
    counts();
    for (String w : wrong) System.out.println(w);
    System.out.println(looked + " answers looked at, " + wrong.size() + " not as due");
    if (!wrong.isEmpty()) System.exit(1);
  }

  private static void due(String what, long got, long want) {
    looked++;
    if (got != want) wrong.add(what + " answered " + got + ", due is " + want);
  }

  private static void same(String what, String got, String want) {
    looked++;
    if (!got.equals(want)) wrong.add(what + ": not as it was\n  " + want + "\n  " + got);
  }

  private static void fractionDue(String what, long above, long below, long wantAbove, long wantBelow) {
    due(what + " above", above, wantAbove);
    due(what + " below", below, wantBelow);
  }

  private static Noted with(String lane) {
    return Noted.with(lane);
  }

  private static String many(String text, int many) {
    return text.repeat(many);
  }

  private static String two(int v) {
    return String.format("%02d", v);
  }

  // 1: an empty lane of 100 yards
  private static void aNewObject() {
    Noted x = new Noted();
    int[] want = {0, 100, 0, 0, 2, 0, 0, 0, 0, 0, 0};
    for (int w = 0; w < want.length; w++) due("new: count " + w, x.count(w), want[w]);
    for (int w = 11; w <= 18; w++) due("new: count " + w, x.count(w), 0);
    due("new: no letters", x.lane(), -1000);
    due("new: no row", x.judge() + x.clear(), -9);
    due("new: no bags, no habit, no times", x.empty() + x.forget() + x.wipe(), 0);
    due("new: order, table, sure, never", x.order() + x.ranks() + x.sure(0) + x.sure(1), 0);
    due("new: nothing refused", x.count(11) + x.count(12) + x.count(13) + x.count(14) + x.count(15) + x.count(16), 0);
    due("new: none to take back", x.back(), -3);
    due("new: no image", x.restore(), -3);
    due("new: two refused", x.count(13), 2);
    int[] was = {100, 0, 2, 0};
    for (int w = 0; w < 4; w++) due("new: set " + w, x.set(w, w == 0 ? 20 : 1), was[w]);
    Noted other = new Noted();
    due("another new one has nothing of the first", other.count(1), 100);
  }

  // 2: 0 .. 255; 96 at most
  private static void letters() {
    Noted x = new Noted();
    due("letter 0", x.feed(0), 1);
    due("letter 255", x.feed(255), 2);
    due("letter -1", x.feed(-1), -4);
    due("letter 256", x.feed(256), -6);
    due("still two", x.count(7), 2);
    for (int k = 3; k <= 95; k++) due("letter " + k, x.feed(';'), k);
    due("the 96th letter", x.feed(255), 96);
    due("the 97th letter", x.feed(0), -6);
    due("the 97th below", x.feed(-1), -4);
    due("the 97th above", x.feed(256), -6);
    due("still 96", x.count(7), 96);
    x.lane();
    due("room again behind lane()", x.feed('g'), 1);
  }

  // 3: FAULTS of kind 1: at each place each letter
  private static void lettersOfALane() {
    String[] statements = {"w;", "w1;", "w12;", "w123;", "r00100500;", "m02;", "s000;", "g;"};
    for (String ahead : new String[] {"", "w100;"}) {
      for (String s : statements) {
        for (int p = 0; p < s.length(); p++) lettersAt(ahead, s.substring(0, p));
      }
    }
  }

  private static void lettersAt(String ahead, String begun) {
    int place = ahead.length() + begun.length();
    for (int letter = 0; letter <= 255; letter++) {
      Noted x = with("r00100000;");
      for (char c : (ahead + begun).toCharArray()) x.feed(c);
      x.feed(letter);
      long got = x.lane();
      String what = "letter " + letter + " behind " + ahead + begun;
      if (!goesOn(begun, letter)) due(what, got, -1000 - place);
      else if (letter != ';') due(what + ", then the end", got, -1001 - place);
      else due(what + ": no fault of kind 1", got > -1000 || got <= -2000 ? 1 : 0, 1);
    }
  }

  private static boolean goesOn(String begun, int letter) {
    boolean digit = letter >= '0' && letter <= '9';
    boolean end = letter == ';';
    int p = begun.length();
    if (p == 0) return letter == 'w' || letter == 'r' || letter == 'm' || letter == 's' || letter == 'g';
    switch (begun.charAt(0)) {
      case 'w': return p == 1 ? digit : p <= 3 ? digit || end : end;
      case 'r': return p <= 8 ? digit : end;
      case 'm': return p <= 2 ? digit : end;
      case 's': return p <= 3 ? digit : end;
      default: return end;
    }
  }

  // 3: FAULTS of kind 2: each number of each STATEMENT
  private static void statementsOfALane() {
    for (int v = 0; v <= 999; v++) {
      boolean fits = v >= 20 && v <= 200;
      aStatement("w" + v + ";", fits, 1, v);
      if (v < 100) aStatement("w" + String.format("%03d", v) + ";", fits, 1, v);
      if (v < 10) aStatement("w0" + v + ";", false, 1, v);
    }
    for (int v = 0; v <= 99; v++) {
      if (v <= 9) aRunner("r" + v + "0100000;", v <= 5, 0, v);
      if (v <= 9) aRunner("r0" + v + "100000;", true, 1, v);
      aRunner("r00" + two(v) + "0000;", v >= 5 && v <= 40, 2, v);
      aRunner("r0010" + two(v) + "00;", v <= 20, 3, v);
      aRunner("r001000" + two(v) + ";", true, 4, v);
      aStatement("m" + two(v) + ";", v / 10 <= 4 && v % 10 >= 1, 3, v / 10);
      aStatement("m" + two(v) + ";", v / 10 <= 4 && v % 10 >= 1, 4, v % 10);
      aStatement("s0" + two(v) + ";", true, 5, v);
    }
    for (int who = 0; who <= 9; who++) {
      due("start of " + who + " of one", with("r00100000;").tell("s" + who + "00;"), who == 0 ? 1 : -2000);
      due("start of " + who + " of four", with(many("r00100000;", 4)).tell("s" + who + "50;"), who <= 3 ? 1 : -2000);
    }
  }

  private static void aStatement(String text, boolean fits, int told, int v) {
    Noted x = with("r00100033;");
    int was = x.count(told);
    due(text, x.tell(text), fits ? 1 : -2000);
    due(text + " count " + told, x.count(told), fits ? v : was);
  }

  private static void aRunner(String text, boolean fits, int what, int v) {
    Noted x = new Noted();
    due(text, x.tell(text), fits ? 1 : -2000);
    due(text + " runners", x.count(0), fits ? 1 : 0);
    if (fits) due(text + " what " + what, x.runner(0, what), v);
    if (fits) due(text + " wins", x.runner(0, 6), 0);
  }

  private static void lanesAsAWhole() {
    Object[][] lanes = {
        // at least one STATEMENT; the end, if something lacks
        {"", "", -1000}, {"", "w", -1001}, {"", "w20", -1003}, {"", "w200", -1004}, {"", "w20;r", -1005}, {"", "r00100000", -1009},
        // a FAULT of kind 1 is told ahead of one of kind 2
        {"", "w19;q", -1004}, {"", "g;w201;m", -1008},
        // the first STATEMENT that is not as it must be, behind all ahead of it
        {"", "w19;w201;", -2000}, {"", "w20;w201;", -2004}, {"", "w200;w020;w0;", -2010}, {"", "m01;g;", -2004}, {"", "g;r00100000;", -2000},
        {"", "r00100000;g;", 2}, {"", "s000;r00100000;", -2000}, {"", "r00100000;s000;", 2}, {"", "r00100000;s100;", -2010},
        {"r00100000;", "r00100000;s199;", 2}, {"r00100000;", "s100;r00100000;", -2000},
        // four RUNNERS at most
        {"r00100000;r00100000;r00100000;", "r00100000;", 1}, {"r00100000;r00100000;r00100000;", "r00100000;r00100000;", -2010},
        {"r00100000;r00100000;r00100000;r00100000;", "r00100000;", -2000}, {"r00100000;r00100000;r00100000;r00100000;", "g;r00100000;", -2002}};
    for (Object[] l : lanes) {
      Noted x = with((String) l[0]);
      String state = x.state();
      String what = l[0] + " and " + l[1];
      due(what, x.tell((String) l[1]), (Integer) l[2]);
      due(what + ": no letters", x.count(7), 0);
      for (int w = 11; w <= 16; w++) due(what + ": nothing counted " + w, x.count(w), 0);
      if ((Integer) l[2] < 0) same(what, x.state(), state);
    }
    fullLanes();
    lanesOfWeeks();
    lanesThatCome();
  }

  private static void fullLanes() {
    due("96 letters", with("r00100000;").tell(many("g;", 48)), 48);
    due("96 letters, the last is wrong", with("r00100000;").tell(many("g;", 47) + "gg"), -1095);
    due("96 letters without end", with("r00100000;").tell(many("g;", 47) + "w2"), -1096);
    due("96 letters of one kind", new Noted().tell(many("w", 96)), -1001);
    due("the last STATEMENT of 96 letters", with("r00100000;").tell(many("g;", 46) + "m00;"), -2092);
    due("letters 0", new Noted().tell("\0\0"), -1000);
  }

  private static void lanesOfWeeks() {
    int[] weeks = {997, 998, 999};
    int[] want = {2, -2002, -2000};
    for (int k = 0; k < 3; k++) {
      Noted x = with("r00100000;");
      x.set(3, weeks[k]);
      due("two runs from week " + weeks[k], x.tell("g;g;"), want[k]);
      due("week behind", x.count(2), k == 0 ? 999 : weeks[k]);
      due("wins behind", x.count(6), k == 0 ? 2 : 0);
    }
  }

  private static void lanesThatCome() {
    // over 50 yards 50 - 10 by 10 and 60 - 48 by 12: RUNNER 0 is four back and 1 ahead
    Noted x = new Noted();
    due("all of it comes, one behind the other", x.tell("w50;r00100010;r00120000;m34;s110;g;s099;w60;"), 8);
    due("start told behind the run", x.runner(0, 4), 99);
    due("start mended by the run", x.runner(1, 4), 14);
    due("who won", x.runner(0, 6), 1);
    due("the last way", x.count(1), 60);
    due("a week more", x.count(2), 1);
    x.run();
    due("a run to take back", x.count(17), 1);
    due("a fault leaves it: kind 1", x.tell("q") + x.count(17), -999);
    due("a fault leaves it: kind 2", x.tell("w19;") + x.count(17), -1999);
    due("a lane leaves none", x.tell("w60;") + x.count(17), 1);
    x.tell("g;");
    due("nor can its runs be taken back", x.count(17), 0);
  }

  // 4: TIME
  private static void times() {
    // PACE times y by 10, cut; y 1 at least; 1 at least behind
    int[][] plain = {{20, 19, 5, 1}, {20, 18, 5, 1}, {20, 17, 5, 1}, {20, 16, 5, 2}, {20, 20, 40, 4}, {20, 21, 40, 4}, {20, 99, 40, 4},
        {20, 19, 40, 4}, {20, 18, 40, 8}, {20, 0, 40, 80}, {200, 0, 40, 800}, {200, 0, 5, 100}, {200, 99, 40, 404}, {100, 99, 10, 1},
        {100, 98, 10, 2}, {99, 99, 39, 3}, {101, 99, 39, 7}, {100, 0, 19, 190}, {99, 0, 19, 188}};
    for (int[] t : plain) due("way " + t[0] + " start " + t[1] + " pace " + t[2], timeOf(0, 9, t[2], t[1], t[0], 7), t[3]);
    // WEEK times FIGURE over 10, cut; 1 at least behind
    int[][] grower = {{0, 9, 100}, {1, 9, 100}, {2, 4, 100}, {2, 5, 99}, {10, 9, 91}, {10, 0, 100}, {109, 9, 2}, {110, 9, 1}, {111, 9, 1},
        {112, 9, 1}, {999, 9, 1}, {999, 1, 1}, {989, 1, 2}, {999, 0, 100}};
    for (int[] t : grower) due("grower in week " + t[0] + " by " + t[1], timeOf(1, t[1], 10, 0, 100, t[0]), t[2]);
    due("grower of the longest way in the last week", timeOf(1, 8, 40, 0, 200, 999), 800 - 799);
    due("grower of the longest way in the last week by 7", timeOf(1, 7, 40, 0, 200, 999), 800 - 699);
    // FIGURE times (y less 50, 0 at least) by 20, cut
    int[][] tired = {{50, 0, 50}, {51, 0, 51}, {52, 0, 52}, {53, 0, 53 + 1}, {49, 0, 49}, {20, 0, 20}, {20, 99, 1}, {200, 0, 200 + 67},
        {200, 99, 101 + 22}, {100, 50, 50}, {100, 47, 53 + 1}};
    for (int[] t : tired) {
      due("tired over " + t[0] + " from " + t[1], timeOf(2, 9, 10, t[1], t[0], 0), t[2]);
      due("loaded over " + t[0] + " from " + t[1], timeOf(4, 9, 10, t[1], t[0], 1), t[2] + 18);
      due("tired by 0 over " + t[0], timeOf(2, 0, 10, t[1], t[0], 0), Math.max(1, t[0] - t[1]));
    }
    due("tired by 1 over 69 yards", timeOf(2, 1, 10, 0, 69, 0), 69);
    due("tired by 1 over 70 yards", timeOf(2, 1, 10, 0, 70, 0), 71);
    due("loaded by 0", timeOf(4, 0, 10, 0, 100, 0), 100);
    // FIGURE more in even WEEKS
    for (int week : new int[] {0, 1, 2, 3, 998, 999}) {
      int more = week % 2 == 0 ? 9 : 0;
      due("sly in week " + week, timeOf(3, 9, 10, 1, 100, week), 99 + more);
      due("letting in week " + week, timeOf(5, 9, 10, 1, 100, week), 99 + more);
      due("letting in week " + week + " with START 0", timeOf(5, 9, 10, 0, 100, week), 100 + more + 5);
      due("tired in week " + week, timeOf(2, 9, 10, 50, 100, week), 50);
    }
    // 1 at least behind each: a RUNNER's is 1 ahead of what is more
    due("sly from 1", timeOf(3, 9, 5, 99, 20, 0), 10);
    due("letting from 1", timeOf(5, 9, 5, 99, 20, 0), 10);
    due("loaded from 1", timeOf(4, 9, 5, 99, 20, 0), 19);
    due("tired from 1", timeOf(2, 9, 5, 99, 20, 0), 1);
  }

  private static int timeOf(int kind, int figure, int pace, int start, int way, int week) {
    Noted x = with("w" + way + ";r" + kind + figure + two(pace) + "00" + two(start) + ";");
    x.set(3, week);
    return x.runner(0, 5);
  }

  // 5, 6
  private static void startsAndKinds() {
    Noted x = with("r00100050;r59100000;r00100099;r39100007;");
    due("start of the last RUNNER", x.start(3, 99), 7);
    due("start 99", x.start(3, 0), 99);
    due("start 0", x.start(3, 7), 0);
    due("start of the first", x.start(0, 0), 50);
    due("all starts", x.count(5), 0 + 0 + 99 + 7);
    due("kind of the last", x.kind(3, 0, 0), 39);
    due("kind 0 and figure 0", x.kind(3, 5, 9), 0);
    due("kind 5 and figure 9", x.kind(3, 1, 0), 59);
    due("figure 0", x.kind(3, 0, 9), 10);
    due("figure 9", x.kind(3, 0, 9), 9);
    due("kind of the others stays", x.runner(1, 0) * 10 + x.runner(1, 1), 59);
  }

  // 7: WAY 20 .. 200, RULE 0 .. 4, YARD 1 .. 9, WEEK 0 .. 999
  private static void settings() {
    int[] lo = {20, 0, 1, 0};
    int[] hi = {200, 4, 9, 999};
    int[] told = {1, 3, 4, 2};
    for (int w = 0; w < 4; w++) {
      Noted x = with("r00100000;");
      for (int v = lo[w]; v <= hi[w]; v += Math.max(1, (hi[w] - lo[w]) / 20)) {
        int was = x.count(told[w]);
        due("set " + w + " to " + v, x.set(w, v), was);
        due("set " + w + " is " + v, x.count(told[w]), v);
      }
      x.set(w, hi[w]);
      due("greatest of " + w, x.count(told[w]), hi[w]);
      due("above it", x.set(w, hi[w] + 1), w == 1 ? -2 : -6);
      due("greatest stays", x.set(w, lo[w]), hi[w]);
      due("below the least of " + w, x.set(w, lo[w] - 1), w == 1 ? -2 : -4);
      due("least stays", x.count(told[w]), lo[w]);
    }
  }

  // 8
  private static void runs() {
    Noted x = with("r00100000;");
    x.set(3, 998);
    due("in week 998", x.run(), 0);
    due("week 999", x.count(2), 999);
    due("in week 999", x.run(), -6);
    due("one win", x.count(6), 1);
    due("one refused", x.count(16), 1);
    Noted none = new Noted();
    due("nobody", none.run(), -3);
    none.set(3, 999);
    due("nobody in week 999", none.run(), -3);
    due("four alike: the least number", with(many("r00100000;", 4)).run(), 0);
    due("two alike behind: the lesser", with("r00110000;r00120000;r00100000;r00100000;").run(), 2);
    due("the last alone", with("r00110000;r00120000;r00110000;r00100000;").run(), 3);
  }

  // 8: 0 at least, 99 at most, 1 ahead of 2, all others 1 more
  private static void mended() {
    int[][] less = {{0, 1, 0}, {1, 1, 0}, {2, 1, 1}, {0, 9, 0}, {8, 9, 0}, {9, 9, 0}, {10, 9, 1}, {99, 9, 90}};
    for (int[] t : less) due("rule 1 from " + t[0] + " by " + t[1], alone(1, t[1], t[0]), t[2]);
    for (int[] t : less) due("rule 4 from " + t[0] + " by " + t[1], alone(4, t[1], t[0]), t[2]);
    int[][] more = {{0, 1, 1}, {98, 1, 99}, {99, 1, 99}, {89, 9, 98}, {90, 9, 99}, {91, 9, 99}, {99, 9, 99}};
    for (int[] t : more) due("rule 2 from " + t[0] + " by " + t[1], alone(2, t[1], t[0]), t[2]);
    // the one is first and last: less ahead of more
    int[][] both = {{0, 9, 9}, {5, 9, 9}, {9, 9, 9}, {10, 9, 10}, {99, 9, 99}, {95, 9, 95}, {0, 1, 1}};
    for (int[] t : both) due("rule 3 from " + t[0] + " by " + t[1], alone(3, t[1], t[0]), t[2]);
    for (int s : new int[] {0, 50, 99}) due("rule 0 from " + s, alone(0, 9, s), s);
    // 195 yards by 5 tenths: 0 is first; 102 by 40 : 101 by 40: 1 is last
    String[] want = {"5 98 99 99", "0 98 99 99", "5 99 99 99", "0 99 99 99", "0 99 99 99"};
    for (int rule = 0; rule <= 4; rule++) {
      Noted x = with("w200;r00050005;r00400098;r00400099;r00400099;m" + rule + "6;");
      x.run();
      same("starts by rule " + rule, x.runner(0, 4) + " " + x.runner(1, 4) + " " + x.runner(2, 4) + " " + x.runner(3, 4), want[rule]);
    }
    Noted last = with("r00200010;r00200010;r00100010;m37;");
    last.run();
    due("of two last the greater number", last.runner(1, 4), 17);
    due("of two last the lesser", last.runner(0, 4), 10);
    due("the first", last.runner(2, 4), 3);
  }

  private static int alone(int rule, int yard, int start) {
    Noted x = with("r001000" + two(start) + ";m" + rule + yard + ";");
    x.run();
    return x.runner(0, 4);
  }

  // 9, 11: digits, the first the lowest
  private static void orders() {
    int[] alike = {0, 0, 10, 210, 3210};
    int[] turned = {0, 0, 1, 12, 123};
    for (int n = 0; n <= 4; n++) {
      due("order of " + n + " alike", with(many("r00100000;", n)).order(), alike[n]);
      StringBuilder s = new StringBuilder();
      for (int i = 0; i < n; i++) s.append("r00").append(two(20 - i)).append("0000;");
      Noted x = with(s.toString());
      due("order of " + n + " turned", x.order(), turned[n]);
      fractionDue("ordered as turned", x.ordered(turned[n], 0), x.ordered(turned[n], 1), 1, 1);
      if (n > 1) fractionDue("ordered as alike", x.ordered(alike[n], 0), x.ordered(alike[n], 1), 0, 1);
    }
    // ties of some: 1 and 3 alike, then 0 and 2 alike
    due("order of ties", with("r00120000;r00100000;r00120000;r00100000;").order(), 2031);
    // 100 and 90, 100, 110: 0, 1 if 1 takes 100 or 110
    Noted y = with("r00100000;r00101000;");
    fractionDue("ordered 0, 1", y.ordered(10, 0), y.ordered(10, 1), 3, 4);
    fractionDue("ordered 1, 0", y.ordered(1, 0), y.ordered(1, 1), 1, 4);
  }

  // 10, 13: SPREAD 0 and 20; SPREAD less 1 at least
  private static void likelihoods() {
    fractionDue("one alone", with("r00102000;").likely(0, 0), with("r00102000;").likely(0, 1), 1, 1);
    // 0 takes 1; 1 takes 1, 20, 40: never less
    Noted x = with("w20;r00050099;r00102000;");
    fractionDue("1 at least", x.likely(0, 0), x.likely(0, 1), 1, 1);
    due("sure", x.sure(0), 1);
    due("never", x.sure(1), 2);
    // turned: at 1 the lesser number is ahead
    Noted y = with("w20;r00102000;r00050099;");
    fractionDue("1 at least: a tie", y.likely(0, 0), y.likely(0, 1), 1, 4);
    due("neither sure nor never", y.sure(0) + y.sure(1), 0);
    // 21 and 20: 1 is 1, not 0
    Noted z = with("w21;r00102000;r00050099;");
    fractionDue("21 less 20", z.likely(0, 0), z.likely(0, 1), 1, 4);
    Noted v = with("w22;r00102000;r00050099;");
    fractionDue("22 less 20", v.likely(0, 0), v.likely(0, 1), 0, 1);
    due("never at 2", v.sure(1), 1);
    Noted still = with("r00100000;r00100000;r00100000;r00100000;");
    fractionDue("four without SPREAD", still.likely(0, 0), still.likely(0, 1), 1, 1);
    fractionDue("the last of them", still.likely(3, 0), still.likely(3, 1), 0, 1);
    due("sure of four", still.sure(0), 1);
    due("never of four", still.sure(1), 14);
    due("one alone is sure", with("r00102000;").sure(0), 1);
    due("one alone is not never", with("r00102000;").sure(1), 0);
    // SPREAD 20 brings 120 to 100, a tie; 121 not
    Noted far = with("r00100000;r00122000;");
    fractionDue("120 less 20 is a tie", far.likely(1, 0), far.likely(1, 1), 0, 1);
    far.start(1, 1);
    fractionDue("118 less 20", far.likely(1, 0), far.likely(1, 1), 1, 4);
    due("quarter: neither", far.sure(0) + far.sure(1), 0);
  }

  // 12: two RUNNERS at least
  private static void closeness() {
    Noted x = with("r00100000;r00100000;");
    fractionDue("no gap", x.close(0, 0), x.close(0, 1), 0, 1);
    fractionDue("uneven of a tie", x.close(1, 0), x.close(1, 1), 1, 1);
    // 90, 100, 110 and 100: 10, 0, 0, 10
    Noted y = with("r00101000;r00100000;");
    fractionDue("gap of two", y.close(0, 0), y.close(0, 1), 5, 1);
    fractionDue("uneven of two", y.close(1, 0), y.close(1, 1), 1, 2);
    // the third and fourth are far behind: the second's less the first's
    Noted z = with("r00101000;r00200000;r00100000;r00300000;");
    fractionDue("gap of four", z.close(0, 0), z.close(0, 1), 5, 1);
    fractionDue("uneven of four", z.close(1, 0), z.close(1, 1), 3, 4);
    // 1 takes 1 or 21: 0 and 20 more than 1
    Noted low = with("w20;r00050099;r00052099;");
    fractionDue("gap from 1 at least", low.close(0, 0), low.close(0, 1), 5, 1);
  }

  // 14: START 0 .. 99 of the second, of several the least
  private static void evening() {
    // at 99 yards 1, 4, 4, 8 against 3, 4, 4, 5: 6 of 16; at 98 yards 4, 8, 8, 12: 13
    Noted x = with("r00400400;r00400199;");
    due("even with START 99", x.even(1, 0), 99);
    due("even stays", x.runner(0, 4), 0);
    // who is ahead always whatever the START is: the least
    due("even with START 0", with("r00050000;r00400000;").even(0, 1), 0);
    due("even alike", with("r00100050;r00100050;").even(0, 1), 0);
    Noted y = with("r00100000;r00111000;");
    // 1 takes 100, 110, 120: 16; by 1 yard 98, 108, 118: 12; by 9 90, 100, 110: 12; by 10 89, 99, 109: 4
    due("12 and 4 are as near, the least", y.even(0, 1), 1);
    // 35, 38, 41 against 35, 40, 45 by 90 yards: 11 of 16; by 91 31, 36, 41: 6, which is nearer
    due("6 is nearer than 11", with("r00190380;r00400500;").even(0, 1), 91);
    // with START 0 LETTING takes 5 more: 105 : 100 and by 1 yard 99
    due("letting with START 0", with("r00100000;r50100000;").even(0, 1), 0);
    // 100, SPREAD 6: 105 is 99, 105, 111: 12 of 16; 99 is 93, 99, 105: 4
    due("letting with START 0, as near", with("r00100000;r50100600;").even(0, 1), 0);
    due("other RUNNERS do not count", with("r00050000;r00400400;r00400199;").even(2, 1), 99);
  }

  // 15: step 5 .. 50, 1 .. 3 RUNNERS
  private static void evenestStarts() {
    for (int step : new int[] {5, 33, 50}) due("one alone by " + step, with("r00100077;").starts(step, 0), 0);
    // 200, 100 and 100, 50: even at 50 and 0
    Noted x = with("r00200500;r00100500;");
    due("by 50 of 0", x.starts(50, 0), 50);
    due("by 50 of 1", x.starts(50, 1), 0);
    due("no third", x.starts(50, 2), -9);
    due("-9 is not refused", x.count(11) + x.count(12) + x.count(13) + x.count(14) + x.count(15) + x.count(16), 0);
    // 1, 4, 7 and 1 over a yard each, else all is sure
    Noted y = with("r00400300;r00050000;");
    due("by 33 the greatest START of 0", y.starts(33, 0), 99);
    due("by 33 the greatest START of 1", y.starts(33, 1), 99);
    // 33, 40, 47 by 95 and 45 by 15: 12 of 16
    Noted z = with("w105;r00400700;r00050000;");
    due("by 5 the greatest START", z.starts(5, 0), 95);
    due("by 5 of the other", z.starts(5, 1), 15);
    due("by 6 no START above 96", z.starts(6, 0), 96);
    // as uneven with 50, 50 and 0: RUNNER 0 counts first
    Noted three = with("r00170400;r00161800;r00140400;");
    int[] want = {0, 50, 50};
    for (int i = 0; i < 3; i++) due("of several the first by RUNNERS: " + i, three.starts(50, i), want[i]);
    Noted turned = with("r00140400;r00161800;r00170400;");
    due("turned", turned.starts(50, 0) + turned.starts(50, 1) + turned.starts(50, 2) > 0 ? 1 : 0, 1);
    due("none", new Noted().starts(5, 0), -3);
    due("four", with(many("r00100000;", 4)).starts(5, 0), -3);
  }

  // 16: FIGURE 0 .. 9
  private static void loads() {
    // LOADED by 9 140, by 8 136; against 138, 145, 152
    due("figure 9", with("r00100000;r00290750;").load(0), 9);
    // by 10 it would be 145, by 9 it is sure to be first as by 0: 143, 150, 157
    due("figure 9 at most", with("r00100000;r00300750;").load(0), 0);
    // first by any FIGURE
    due("of several the least", with("r00100000;r00400000;").load(0), 0);
    // by 0 11 of 16, by 1 (104) 5 of 16
    due("as uneven by 0 and 1", with("r09100500;r00100500;").load(0), 0);
    due("one alone", with("r59100500;").load(0), 0);
    due("of four the last, first by any", with("r00400000;r00400000;r00300000;r00100000;").load(3), 0);
  }

  // 17: n 0 .. 60
  private static void onRaces() {
    Noted x = with("r00100050;m11;");
    for (int n = 0; n <= 60; n++) {
      due("start on " + n, x.on(0, n, 0), Math.max(0, 50 - n));
      due("wins on " + n, x.on(0, n, 1), n);
    }
    x.run();
    x.run();
    due("wins of more than now: none", x.on(0, 0, 1), 0);
    due("wins of more than now", x.on(0, 1, 1), 1);
    due("start now", x.on(0, 0, 0), 48);
    Noted late = with("r00100050;m21;");
    late.set(3, 999);
    due("in mind from week 999", late.on(0, 60, 1), 60);
    due("start from week 999", late.on(0, 60, 0), 99);
    due("week stays", late.count(2), 999);
    Noted two = with("r00100000;r00100000;m01;");
    due("who never wins", two.on(1, 60, 1), 0);
    due("who always wins", two.on(0, 60, 1), 60);
  }

  // 18: the first race (0 ..) from which on to 60 races on no START is changed; not even at the last
  private static void settling() {
    int[][] cases = {{0, 0}, {1, 1}, {2, 2}, {58, 58}, {59, 59}, {60, -9}, {99, -9}};
    for (int[] c : cases) due("settles from " + c[0], with("r001000" + two(c[0]) + ";m11;").settles(), c[1]);
    due("settles at 99", with("r00100099;m21;").settles(), 0);
    due("settles from 40 to 99", with("r00100040;m21;").settles(), 59);
    due("not from 39", with("r00100039;m21;").settles(), -9);
    due("by rule 0", with("r00100050;r00120040;m09;").settles(), 0);
    due("less and more of one alone", with("r00100050;m39;").settles(), 0);
    due("less and more at 0", with("r00100003;m39;").settles(), 1);
    Noted late = with("r00100002;m11;");
    late.set(3, 999);
    due("settles in week 999", late.settles(), 2);
    due("settles stays", late.runner(0, 4) + late.count(2), 1001);
  }

  // 19: n 1 .. 60, of several the least
  private static void bestRules() {
    // gaps of the second race: 5, 0, 0, 5, 1
    due("best of two: rule 1", with("r00100010;r00100005;m05;").best(2), 1);
    // 5, 5, 0, 0, 4: the first has no START to lose
    due("best of two: rule 2", with("r00090000;r00100005;m05;").best(2), 2);
    // 10, 5, 5, 0, 4
    due("best of two: rule 3", with("r00100010;r00100000;m05;").best(2), 3);
    // 6, 1, 1, 4, 0
    due("best of two: rule 4", with("r00100010;r00100004;m05;").best(2), 4);
    // 2, 3, 3, 8, 4
    due("best of two: rule 0", with("r00100010;r00100008;m05;").best(2), 0);
    due("best of one: all alike", with("r00100010;r00100004;m45;").best(1), 0);
    Noted x = with("r00100000;r00200000;m41;");
    // 0 has none to lose; behind 50 races the two are even, then by rule 2 gaps are 0, 2, 1, by 3 and 4 2, 1
    due("best of 60", x.best(60), 2);
    due("rule stays", x.count(3), 4);
  }

  // 20: n 0 .. 60; may be below 0
  private static void paying() {
    Noted x = with("r09100000;r00100000;m01;");
    due("pays in none", x.pays(0, 0), 0);
    due("pays in one", x.pays(0, 1), -1);
    due("pays in two", x.pays(0, 2), -1);
    due("pays in 60", x.pays(0, 60), -30);
    due("pays the other nothing", x.pays(1, 60), 0);
    due("alone", with("r39100000;").pays(0, 60), 0);
    // as a RUNNER 98, 98, 89, 89 never first; as a SLY last in week 2, nine yards more: 80 in week 3
    due("pays more", with("r03100002;r17100013;r28100012;m29;").pays(0, 4), 1);
    due("pays more, whatever it is", with("r53100002;r17100013;r28100012;m29;").pays(0, 4), 1);
    Noted odd = with("r09100000;r00100000;m01;");
    odd.set(3, 999);
    due("pays from an odd week", odd.pays(0, 1), 0);
    due("pays from week 999 on", odd.pays(0, 2), -1);
  }

  // 21, 22: s 0 .. 99
  private static void worths() {
    Noted x = with("w200;r00100050;r00100000;r00050000;r50100000;");
    due("worth of 0", x.worth(0, 0), 0);
    due("worth of 1", x.worth(0, 1), 1);
    due("worth of 99", x.worth(0, 99), 99);
    due("worth of 0 for letting", x.worth(3, 0), 0);
    due("worth of 1 for letting", x.worth(3, 1), 6);
    due("same of 0", x.same(0, 0, 1), 0);
    due("same of 99", x.same(0, 99, 1), 99);
    due("same is not to be had", x.same(0, 99, 2), -9);
    // 5 a yard's half: 98 are 49 and 99 are 50 (100 less 101 * 5 / 10)
    due("same of 49", x.same(0, 49, 2), 97);
    due("same of 50", x.same(0, 50, 2), 99);
    due("same of 51", x.same(0, 51, 2), -9);
    due("same for letting", x.same(0, 6, 3), 1);
    due("same for letting, a yard more", x.same(0, 7, 3), 2);
    due("same of letting", x.same(3, 1, 0), 6);
    due("starts stay", x.runner(0, 4) + x.runner(1, 4), 50);
    x.set(0, 20);
    due("y is 1 at least", x.worth(0, 99), 19);
    due("worth of 19", x.worth(0, 19), 19);
    due("worth of 18", x.worth(0, 18), 18);
    due("all that is to be had", x.same(0, 99, 1), 19);
  }

  // 23: one at least in each, RUNNER 0 in the first; half cut; without START
  private static void teams() {
    due("two", with("r00100000;r00100000;").teams(0), 1);
    due("two apart", with("r00400000;r00050000;").teams(1), 200 - 25);
    due("0 alone", with("r00300000;r00100000;r00100000;r00100000;").teams(0), 1);
    due("1 alone", with("r00100000;r00300000;r00100000;r00100000;").teams(0), 13);
    due("2 alone", with("r00100000;r00100000;r00300000;r00100000;").teams(0), 11);
    due("3 alone", with("r00100000;r00100000;r00100000;r00300000;").teams(0), 7);
    due("3 alone: apart", with("r00100000;r00100000;r00100000;r00300000;").teams(1), 0);
    due("of several the least", with("r00100000;r00100000;r00100000;").teams(0), 1);
    due("of several the least of four", with(many("r00100000;", 4)).teams(0), 3);
    Noted x = with("w20;r00400099;r50050099;");
    // 10 yards: 40 and 5 and, as with START 0, 5 more
    due("half of 20", x.teams(1), 30);
    x.set(0, 21);
    due("half of 21 is cut", x.teams(1), 30);
    x.set(0, 22);
    due("half of 22", x.teams(1), 44 - 10);
    x.set(0, 200);
    due("half of 200", x.teams(1), 400 - 55);
    // over half of it nobody is tired by 100 yards
    due("tired over 50 yards", with("r29100000;r00100000;").teams(1), 0);
    Noted longest = with("w200;r29100000;r00100000;");
    due("tired over 100 yards", longest.teams(1), 22);
  }

  // 24: WAY 20 .. 200
  private static void longerWays() {
    due("way 20", with("r00100000;r00100000;").longer(0), 20);
    due("one alone", with("r00400000;").longer(0), 20);
    due("no way", with("r00100000;r00100000;").longer(1), -9);
    // 18 by 200 yards is 24 by 150; 17 by 199 is 338, 24 by 149 is 357
    due("way 200", with("r00180000;r00240050;").longer(0), 200);
    // 1 takes 24 * (w - 49) / 10 cut: on 196 yards 352 : 352, a tie
    due("way 196", with("r00180000;r00240049;").longer(0), 196);
    due("ways stay", with("r00180000;r00240050;").count(1), 100);
    Noted x = with("r00100000;r00100500;");
    due("likelier", x.longer(0), 20);
    due("less likely", x.longer(1), -9);
    // 6 of 16 on each way
    due("less likely than not", with("r00100500;r00100300;").longer(1), -9);
  }

  // 25: STARTS 0 .. 99
  private static void fitting() {
    // by 99 yards 4 : 4, by 98 8
    Noted x = with("r00400000;r00050092;m01;");
    x.row(0);
    due("just START 99", x.fits(0, 0), 1);
    due("least is 99", x.fits(0, 1), 99);
    due("of the other", x.fits(1, 0), 0);
    due("of the other none", x.fits(1, 1), -9);
    x.rows(1);
    due("but START 99", x.fits(0, 0), 99);
    due("least is 0", x.fits(0, 1), 0);
    due("of the other all", x.fits(1, 0), 100);
    x.rows();
    due("an empty row", x.fits(0, 0) + x.fits(0, 1), 100);
    x.rows(1, 1, 1, 1, 1, 1, 1, 1, 1, 1, 1, 1);
    due("a full row", x.fits(0, 0), 99);
    x.rows(1, 1, 1, 1, 1, 1, 1, 1, 1, 1, 1, 0);
    due("a full row, the last is not so", x.fits(0, 0), 0);
    x.rows(2);
    due("nobody there who is told", x.fits(0, 0), 0);
    x.rows(99);
    due("99 is told", x.fits(0, 1), -9);
    due("the row stays", x.count(8), 1);
  }

  // 26
  private static void letting() {
    due("one alone", with("r59100000;").let(), 0);
    // 95 by growing; 130 each by loads, 90 without; without growing 140
    Noted x = with("r19140000;r49090000;r49090000;r49090000;");
    x.set(3, 50);
    due("all", x.let(), 15);
    x.set(3, 56);
    // 140 less 50: 90, the lesser number
    due("a tie is no other one", x.let(), 1);
    due("kinds stay", x.runner(0, 0) * 10 + x.runner(3, 0), 14);
    due("none", with("r00090000;r59100000;r49100000;").let(), 0);
  }

  // 27, 28, 29: 0 .. 99; 12 at most
  private static void rows() {
    Noted x = with("r00100000;r00100000;m01;");
    due("clear of none", x.clear(), 0);
    due("judge of none", x.judge(), -9);
    for (int k = 1; k <= 12; k++) due("row " + k, x.row(0), k);
    due("row 13", x.row(0), -6);
    due("row 13 below", x.row(-1), -4);
    due("row 13 above", x.row(100), -6);
    due("twelve", x.count(8), 12);
    due("judged all", x.judge(), -9);
    due("none then", x.count(8), 0);
    for (int k = 0; k < 11; k++) x.row(0);
    due("row 99", x.row(99), 12);
    due("the last is not so", x.judge(), 11);
    due("none then either", x.count(8), 0);
    x.row(1);
    x.row(0);
    due("the first is not so", x.judge(), 0);
    for (int k = 0; k < 12; k++) x.row(99);
    due("clear of twelve", x.clear(), 12);
    due("row below", x.row(-1), -4);
    due("row above", x.row(100), -6);
    due("row 0", x.row(0), 1);
    Noted none = new Noted();
    due("nobody: an empty row", none.judge(), -9);
    none.row(0);
    due("nobody: 0", none.judge(), 0);
    Noted late = with("r00100000;");
    late.set(3, 999);
    late.rows(0, 0, 1);
    due("judged in mind from week 999", late.judge(), 2);
  }

  // 30: n 1 .. 20; z any int; an int, wrapping
  private static void seeds() {
    // z 1: DRAWS 2, 2, 1, 3, 3, 3, 2, 3, 0, 2; 0 takes 80, 100, 120, 1 takes 110
    Noted x = with("r00102000;r00110000;m01;");
    int[] tenths = {10, 20, 30, 40, 70};
    int[] wins = {1, 2, 2, 3, 4};
    for (int n = 1; n <= 5; n++) {
      due("tenths of seed 1, races " + n, x.seeds(0, n, 1, 1), tenths[n - 1]);
      due("wins of seed 1, races " + n, x.seeds(0, n, 1, 0), wins[n - 1]);
      due("wins of the other", x.seeds(1, n, 1, 0), n - wins[n - 1]);
    }
    int[] some = {0, 1, -1, 2, 65536, 1 << 16, 1 << 30, Integer.MAX_VALUE, Integer.MIN_VALUE, Integer.MIN_VALUE + 1, 1103515245, -1103515245,
        12345, -12345, 987654321, -987654321};
    for (int z : some) {
      for (int n = 1; n <= 20; n++) {
        due("tenths of seed " + z + ", races " + n, x.seeds(0, n, z, 1), bySeeds(n, z)[1]);
        if (n == 20) due("wins of seed " + z, x.seeds(0, n, z, 0), bySeeds(n, z)[0]);
      }
    }
    // without its sign's bit: 0 and the least int draw alike
    due("the sign's bit", x.seeds(0, 20, Integer.MIN_VALUE, 1), x.seeds(0, 20, 0, 1));
    seedsMended();
  }

  /** By the document with numbers that do not wrap by themselves. */
  private static int[] bySeeds(int n, int seed) {
    BigInteger all = BigInteger.ONE.shiftLeft(32);
    BigInteger z = BigInteger.valueOf(seed).mod(all);
    int wins = 0;
    int tenths = 0;
    for (int k = 0; k < n; k++) {
      int[] draw = new int[2];
      for (int i = 0; i < 2; i++) {
        z = z.multiply(BigInteger.valueOf(1103515245)).add(BigInteger.valueOf(12345)).mod(all);
        draw[i] = z.clearBit(31).divide(BigInteger.valueOf(65536)).mod(BigInteger.valueOf(4)).intValue();
      }
      int took = draw[0] == 0 ? 80 : draw[0] == 3 ? 120 : 100;
      if (took <= 110) wins++;
      tenths += Math.abs(took - 110);
    }
    return new int[] {wins, tenths};
  }

  private static void seedsMended() {
    // who is first by the DRAWS, not as a rule: third race 120 : 110, so 1 is nine back, then 100 : 119
    Noted x = with("r00102000;r00110000;m19;");
    // START of 0 is 0 always, of 1 too: 0 at least
    due("0 at least", x.seeds(0, 4, 1, 1), 40);
    Noted y = with("r00102000;r00110000;m29;");
    // 1 last: START 9, 110 * 91 / 100 is 100; 0 and 1 draw 2, 2: 100 : 100; then 1: START 18, 90, and 0 draws 3: 120
    due("mended by the DRAWS: one", y.seeds(0, 1, 1, 1), 10);
    due("mended by the DRAWS: two", y.seeds(0, 2, 1, 1), 10);
    due("mended by the DRAWS: three", y.seeds(0, 3, 1, 1), 10 + 30);
    // then 0 was last: START 9, draws 2: 91 : 90
    due("mended by the DRAWS: four", y.seeds(0, 4, 1, 1), 10 + 30 + 1);
    due("wins in them", y.seeds(0, 4, 1, 0), 2);
    due("seeds stay", y.count(5) + y.count(6) + y.count(2), 0);
    due("one alone wins all", with("r00102000;").seeds(0, 20, 5, 0), 20);
    due("one alone: no tenths", with("r00102000;").seeds(0, 20, 5, 1), 0);
    Noted again = with("r00102000;");
    again.image();
    again.tell("r00200000;g;");
    again.restore();
    due("one alone again: no tenths", again.seeds(0, 20, 5, 1), 0);
    // 1 at least: DRAWS 0 and then 2 by seed 0: 1 and 1
    Noted low = with("w20;r00052099;r00050099;");
    due("1 at least", low.seeds(0, 1, 0, 1), 0);
    due("1 at least: who", low.seeds(0, 1, 0, 0), 1);
    due("third and fourth do not count", with("r00102000;r00110000;r00400000;r00390000;m01;").seeds(0, 1, 1, 1), 10);
  }

  // 31: 6 at most, older ones no more
  private static void back() {
    Noted x = with("r00100050;m11;");
    for (int k = 1; k <= 8; k++) {
      x.run();
      due("runs " + k, x.count(17), Math.min(k, 6));
    }
    for (int k = 5; k >= 0; k--) {
      due("back to " + k, x.back(), k);
      due("start", x.runner(0, 4), 50 - 2 - k);
      due("wins", x.runner(0, 6), 2 + k);
      due("week", x.count(2), 2 + k);
    }
    due("none", x.back(), -3);
    due("start stays", x.runner(0, 4), 48);
    x.run();
    due("one again", x.count(17), 1);
    due("taken back", x.back(), 0);
    // what leaves none, and what is refused
    Object[][] calls = {{"start", new int[] {0, 48}, 0}, {"start", new int[] {0, 100}, 1}, {"start", new int[] {1, 0}, 1}, {"start", new int[] {0, -1}, 1},
        {"kind", new int[] {0, 0, 0}, 0}, {"kind", new int[] {0, 6, 0}, 1}, {"kind", new int[] {0, 0, 10}, 1}, {"kind", new int[] {1, 0, 0}, 1},
        {"set", new int[] {0, 100}, 0}, {"set", new int[] {1, 1}, 0}, {"set", new int[] {2, 1}, 0}, {"set", new int[] {3, 3}, 0},
        {"set", new int[] {0, 201}, 1}, {"set", new int[] {1, 5}, 1}, {"set", new int[] {2, 0}, 1}, {"set", new int[] {3, 1000}, 1},
        {"set", new int[] {4, 0}, 1}, {"restore", new int[0], 0}, {"image", new int[0], 1}, {"lane", new int[0], 1}, {"bag", new int[] {1}, 1},
        {"habit", new int[] {0, 1}, 1}, {"row", new int[] {1}, 1}, {"time", new int[] {1}, 1}, {"feed", new int[] {'w'}, 1},
        {"on", new int[] {0, 60, 0}, 1}, {"judge", new int[0], 1}, {"order", new int[0], 1}, {"forget", new int[0], 1}, {"empty", new int[0], 1}};
    for (Object[] c : calls) {
      Noted y = with("r00100050;m11;");
      y.image();
      y.run();
      y.call((String) c[0], (int[]) c[1]);
      due("left behind " + c[0], y.count(17), (Integer) c[2]);
    }
    Noted none = with("r00100050;");
    none.run();
    none.restore();
    due("left behind a refused restore", none.count(17), 1);
    Noted last = with("r00100050;");
    last.set(3, 998);
    last.run();
    last.run();
    due("a refused run is none", last.count(17), 1);
    due("back from week 999", last.back() + last.count(2), 998);
  }

  // 32, 33, 34, 35: 1 .. 9 pounds; 6 at most
  private static void bags() {
    // 100 : 203, 208, 213; all 108 with the one: 208 : 12 of 16; 99 without one of them: all or none
    Noted x = with("r00100000;r00260520;");
    due("none", x.bags(0, 1, 0), 0);
    due("none: how far", x.bags(0, 1, 1), 8);
    for (int k = 1; k <= 6; k++) due("bag " + k, x.bag(9), k);
    due("bag 7", x.bag(9), -6);
    due("bag 7 below", x.bag(0), -4);
    due("all bags", x.bags(0, 1, 0), 63);
    due("all bags: how far", x.bags(0, 1, 1), 4);
    due("no bags for the slow one", x.bags(1, 0, 0), 0);
    due("no bags for the slow one: how far", x.bags(1, 0, 1), 4);
    due("empty", x.empty(), 6);
    due("empty again", x.empty(), 0);
    due("bag of 1", x.bag(1), 1);
    due("bag of 9", x.bag(9), 2);
    due("bag of 0", x.bag(0), -4);
    due("bag of 10", x.bag(10), -6);
    due("two", x.empty(), 2);
    // all far: of several the least
    due("far is 8", x.bags(0, 1, 1), 8);
    Noted y = with("r00100000;r00100000;r00050000;");
    y.bag(1);
    // 102 : 100 or 100 : 102: all or none
    due("of several the least bits", y.bags(0, 2, 0) + y.bags(0, 1, 0) + y.bags(1, 0, 0), 0);
    due("ahead in all", y.ahead(0, 1), 16);
    due("ahead in none", y.ahead(1, 0), 0);
    due("bags are not carried in ahead", y.ahead(2, 0), 16);
    // a pound is 2 tenths
    Noted z = with("r00100000;r00102000;");
    z.bag(9);
    // with 0 118 : 80, 100, 120: 4 of 16; with 1 100 : 98, 118, 138: 12
    due("as near: the least", z.bags(0, 1, 0), 0);
    due("as near: how far", z.bags(0, 1, 1), 4);
    z.bag(1);
    // none with 0: 100 : 100, 120, 140: 16; 9 with 0: 118 : 82, 102, 122: 4; 1 with 0: 102 : 98, 118, 138: 12
    due("two bags", z.bags(0, 1, 0), 1);
    due("two bags: how far", z.bags(0, 1, 1), 4);
    aheadOfTwo();
  }

  private static void aheadOfTwo() {
    Noted x = with("r00102000;r00102000;r00050000;");
    // 80 : 4; 100 : 3 twice; 120 : 1
    due("ties to the lesser number", x.ahead(0, 1), 11);
    due("ties to the lesser number, turned", x.ahead(1, 0), 5);
    due("the third alone with the first", x.ahead(2, 0), 16);
    due("none", x.ahead(0, 2), 0);
    Noted low = with("w20;r00050099;r00052099;");
    due("1 at least", low.ahead(1, 0), 0);
    due("1 at least, the lesser", low.ahead(0, 1), 16);
  }

  // 36, 37: just 4 RUNNERS; BRACKETS 0 .. 2
  private static void cups() {
    Noted alike = with(many("r00100000;", 4));
    for (int b = 0; b <= 2; b++) {
      fractionDue("cup of 0", alike.cup(0, b, 0), alike.cup(0, b, 1), 1, 1);
      for (int i = 1; i <= 3; i++) fractionDue("cup of " + i, alike.cup(i, b, 0), alike.cup(i, b, 1), 0, 1);
    }
    for (int i = 0; i < 4; i++) due("bracket of several the least", alike.bracket(i), 0);
    // 0 ahead of 1 in 6, of 3 in 10; 1 ahead of 3 in 11; 2 never
    Noted x = with("r05080203;r06080304;r06110116;r05080303;");
    int[][] want = {{15, 64}, {29, 64}, {15, 64}, {55, 128}, {55, 128}, {83, 128}};
    for (int b = 0; b <= 2; b++) {
      fractionDue("cup of 0 by " + b, x.cup(0, b, 0), x.cup(0, b, 1), want[b][0], want[b][1]);
      fractionDue("cup of 1 by " + b, x.cup(1, b, 0), x.cup(1, b, 1), want[3 + b][0], want[3 + b][1]);
      fractionDue("cup of 2 by " + b, x.cup(2, b, 0), x.cup(2, b, 1), 0, 1);
    }
    fractionDue("cup of 3 by 0", x.cup(3, 0, 0), x.cup(3, 0, 1), 43, 128);
    int[] best = {1, 2, 0, 0};
    for (int i = 0; i < 4; i++) due("bracket of " + i, x.bracket(i), best[i]);
    // 11 * (11 * 10 + 5 * 11)
    Noted y = with("r00100500;r00100500;r00100300;r00170540;");
    fractionDue("cup of odd sixteenths", y.cup(0, 0, 0), y.cup(0, 0, 1), 1815, 4096);
    for (int n = 0; n <= 3; n++) due("cup of " + n + " RUNNERS", with(many("r00100000;", n)).cup(0, 0, 0) % 10, n == 0 ? 1 : 3);
  }

  // 38, 39
  private static void leagues() {
    Noted one = with("r00100000;");
    fractionDue("league of one", one.league(0, 0), one.league(0, 1), 0, 1);
    Noted four = with(many("r00100000;", 4));
    for (int i = 0; i < 4; i++) fractionDue("league of " + i, four.league(i, 0), four.league(i, 1), 3 - i, 1);
    due("table of four", four.ranks(), 3210);
    due("table turned", with("r00130000;r00120000;r00110000;r00100000;").ranks(), 123);
    due("table of one", one.ranks(), 0);
    due("table of nobody", new Noted().ranks(), 0);
    due("table of two", with("r00110000;r00100000;").ranks(), 1);
    Noted pair = with("r00102000;r00102000;");
    fractionDue("league of 0 in two", pair.league(0, 0), pair.league(0, 1), 11, 16);
    fractionDue("league of 1 in two", pair.league(1, 0), pair.league(1, 1), 5, 16);
    // the lesser is ahead of the greater in 11 of 16
    Noted three = with("r00102000;r00102000;r00102000;");
    fractionDue("league of 0 in three", three.league(0, 0), three.league(0, 1), 11, 8);
    fractionDue("league of 1 in three", three.league(1, 0), three.league(1, 1), 1, 1);
    fractionDue("league of 2 in three", three.league(2, 0), three.league(2, 1), 5, 8);
    due("table of three", three.ranks(), 210);
    due("of several the lesser number", with("r00100500;r00400000;r00101000;").ranks(), tableOf("r00100500;r00400000;r00101000;"));
  }

  private static int tableOf(String lane) {
    Noted x = with(lane);
    int n = x.count(0);
    long[] sum = new long[n];
    for (int i = 0; i < n; i++) {
      for (int j = 0; j < n; j++) sum[i] += i == j ? 0 : x.ahead(i, j);
    }
    int digits = 0;
    for (int i = 0; i < n; i++) {
      int place = 1;
      for (int j = 0; j < n; j++) if (sum[j] > sum[i] || sum[j] == sum[i] && j < i) place *= 10;
      digits += place * i;
    }
    return digits;
  }

  // 40: the first pair of both; -9
  private static void holding() {
    // worth to the one, of 32, neither .. both: 16, 12, 16, 12
    due("the second alone", with("r00101003;r04100007;m29;").hold(0, 1), 1);
    // 14, 16, 17, 19
    due("the first alone", with("r04100103;r03100503;m46;").hold(0, 1), 2);
    // 14, 16, 18, 16
    due("both", with("r03100203;r07101102;m34;").hold(0, 1), 3);
    // 16, 15, 11, 16
    due("no pair", with("r08100414;r07101017;m15;").hold(0, 1), -9);
    due("no pair, turned", with("r08100414;r07101017;m15;").hold(1, 0), -9);
    due("the first alone, turned", with("r04100103;r03100503;m46;").hold(1, 0), 1);
    due("the second alone, turned", with("r00101003;r04100007;m29;").hold(1, 0), 2);
    due("both by FIGURE 0: the first pair", with("r00100000;r00100000;m49;").hold(0, 1), 0);
    Noted late = with("r04100103;r03100503;m46;");
    late.set(3, 999);
    due("in week 999", late.hold(0, 1), 2);
    due("week stays", late.count(2), 999);
    due("starts stay", late.count(5), 6);
    // a third one, ahead of both, changes nothing: of these two alone
    due("alone", with("r04100103;r03100503;r00050000;m46;").hold(0, 1), 2);
    due("alone, as the last two", with("r00050000;r04100103;r03100503;m46;").hold(1, 2), 2);
  }

  // 41: l 0 .. 20; a yard at least
  private static void legs() {
    Noted x = with("w20;r00400099;r00050000;");
    // 10 and l yards by 5 tenths, the rest by 40: a yard at least
    int[][] cases = {{0, 5 + 40}, {1, 5 + 36}, {8, 9 + 8}, {9, 9 + 4}, {10, 10 + 4}, {11, 10 + 4}, {20, 15 + 4}};
    for (int[] c : cases) {
      due("legs by " + c[0], x.legs(0, 1, c[0], 1), c[1]);
      due("who, by " + c[0], x.legs(0, 1, c[0], 0), c[0] == 0 ? 0 : 1);
      due("who turned, by " + c[0], x.legs(1, 0, c[0], 0), 1);
    }
    x.set(0, 21);
    // 10 and 11 yards: 40 + 5, or 5 + 44
    due("the first half is cut", x.legs(1, 0, 0, 1), 45);
    due("the first half is cut: who", x.legs(1, 0, 0, 0), 0);
    x.set(0, 200);
    due("120 and 80", x.legs(0, 1, 20, 1), 60 + 320);
    // LETTING in week 0: 5 more as with START 0, whatever it has; both alike: the first told
    Noted y = with("r50100099;r50100001;");
    due("letting both", y.legs(0, 1, 0, 1), 55 + 55);
    due("of as long the first told", y.legs(0, 1, 0, 0), 0);
    due("of as long the first told, turned", y.legs(1, 0, 0, 0), 1);
  }

  // 42, 43: 1 .. 9 to one
  private static void betting() {
    Noted x = with("r00100000;");
    x.rows(1);
    due("one alone", x.bet(), 0);
    fractionDue("one alone by 1", x.bets(0), x.bets(1), 2, 1);
    x.rows(9);
    fractionDue("one alone by 9", x.bets(0), x.bets(1), 10, 1);
    for (int v : new int[] {0, 10, 99}) {
      x.rows(v);
      due("told " + v, x.bet(), -3);
      due("told " + v + ": the row stays", x.count(8), 1);
    }
    x.rows();
    due("none told", x.bet(), -3);
    x.rows(1, 1);
    due("one too many", x.bet(), -3);
    due("one too many: bets", x.bets(2), 4000000000000000003L);
    // 12 and 4 of 16: 12 * 2 : 4 * 6 is alike
    Noted y = with("r00100000;r00111000;");
    y.start(1, 1);
    y.rows(1, 5);
    due("of several the least", y.bet(), 0);
    fractionDue("of several", y.bets(0), y.bets(1), 3, 2);
    y.rows(1, 6);
    due("one more", y.bet(), 1);
    fractionDue("7 by a quarter", y.bets(0), y.bets(1), 7, 4);
    y.rows(1, 6, 1, 1, 1, 1, 1, 1, 1, 1, 1, 1);
    due("a full row", y.bet(), -3);
    Noted none = new Noted();
    due("nobody", none.bet(), -3);
    due("nobody: bets", none.bets(0), 4000000000000000003L);
  }

  // 44, 45, 46: whom 0 .. 3; yards -9 .. 9; 4 clauses; START 0 .. 99 held, one clause behind the other
  private static void habits() {
    // 85 : 90 : 95 : 100
    String lane = "r00100015;r00100010;r00100005;r00100000;m09;";
    int[][] once = {{0, -9, 4}, {0, 9, 14}, {1, 9, 5}, {1, -9, 5}, {2, 9, 4}, {2, -9, 14}, {3, 9, 5}, {3, -9, 5}, {0, 0, 5}, {3, 0, 5}};
    // 94 : 90; 76 : 90; 91 : 85; 81, 86 : 85; 85 : 99; 76 : 81; 94 : 99
    for (int[] c : once) {
      Noted x = with(lane);
      due("clause", x.habit(c[0], c[1]), 1);
      due("gap of the first race", x.tried(1, 0), 5);
      due("gaps of two by " + c[0] + ", " + c[1], x.tried(2, 0), 5 + c[2]);
    }
    Noted x = with(lane);
    due("no clauses", x.tried(60, 0), 300);
    due("no clauses: no better", x.tried(60, 1), 0);
    due("no races", x.tried(0, 0) + x.tried(0, 1), 0);
    for (int k = 1; k <= 4; k++) due("clause " + k, x.habit(3, 9), k);
    due("clause 5", x.habit(3, 9), -6);
    due("clause 5 of nobody", x.habit(4, 9), -2);
    due("clause 5 below", x.habit(3, -10), -4);
    due("forget four", x.forget(), 4);
    due("forget none", x.forget(), 0);
    heldClauses();
    int[] better = {1, 0, 1, 0};
    for (int k = 0; k < 4; k++) {
      Noted y = with("r00100015;r00100010;m" + (k < 2 ? "01" : "29") + ";");
      // without: 5, 5; rule 2 by 9: 5, 4; by -3: 5, 2; by 0: 5, 5
      y.habit(0, k == 1 || k == 3 ? 0 : -3);
      due("better " + k, y.tried(2, 1), better[k]);
    }
    Noted alike = with("r00100015;r00100010;m13;");
    alike.habit(0, -3);
    due("alike is no better", alike.tried(60, 1), 0);
    due("of one alone", with("r00100000;").tried(1, 0), -3);
  }

  private static void heldClauses() {
    // 0 held: 3 less 9 and then 5 more is 5
    Noted low = with("r00100003;r00110000;m01;");
    low.habit(0, -9);
    low.habit(0, 5);
    // 97 : 110, then 95 : 110
    due("0 held between two clauses", low.tried(2, 0), 13 + 15);
    // 99 held: 97 and 9 is 99, less 5 is 94: 6 and 1 of ten yards more
    Noted high = with("w200;r00100097;r00100050;m01;");
    high.habit(0, 9);
    high.habit(0, -5);
    due("99 held between two clauses", high.tried(2, 0), 47 + 44);
    // the first stays the first of this race for all clauses
    Noted still = with("r00100010;r00100008;m01;");
    still.habit(0, -9);
    still.habit(0, -1);
    // 10 less 9 less 1 is 0, though it is last behind the first clause: 100 : 92
    due("who was first is meant by all clauses", still.tried(2, 0), 2 + 8);
    // of two alike the last is the greater number, all others none
    Noted ties = with("r00100010;r00100010;m01;");
    ties.habit(1, 4);
    due("of two alike the last is the greater number", ties.tried(2, 0), 4);
    ties.habit(2, 9);
    due("no others of two", ties.tried(2, 0), 4);
    // 2, 3, 5 and 7 yards for the first: 85 : 90, then 68 : 90
    Noted four = with("r00100015;r00100010;m01;");
    int[] yards = {2, 3, 5, 7};
    int[] gap = {7, 10, 15, 22};
    for (int k = 0; k < 4; k++) {
      four.habit(0, yards[k]);
      due("clauses " + (k + 1), four.tried(2, 0), 5 + gap[k]);
    }
  }

  // 47: n 0 .. 60; m 0 .. n
  private static void had() {
    // by 88 yards and more 0 is ahead of 50
    Noted x = with("r00400000;r00050000;m01;");
    due("in no race none", x.had(0, 0, 0, 0), 100);
    due("in no race none: least", x.had(0, 0, 0, 1), 0);
    due("in one none", x.had(0, 1, 0, 0), 88);
    due("in one one", x.had(0, 1, 1, 0), 12);
    due("in one one: least", x.had(0, 1, 1, 1), 88);
    due("in 60 all", x.had(0, 60, 60, 1), 88);
    due("in 60 none", x.had(0, 60, 0, 0), 88);
    due("in 60 but one", x.had(0, 60, 59, 0), 0);
    due("in 60 but one: least", x.had(0, 60, 59, 1), -9);
    due("m above n", x.had(0, 59, 60, 0), -6);
    due("wins are not those it has", x.run() + x.had(1, 1, 1, 0), 101);
    // just 99: 4 : 4
    Noted y = with("r00400000;r00050092;m01;");
    due("just START 99", y.had(0, 60, 60, 0), 1);
    due("least is 99", y.had(0, 60, 60, 1), 99);
    Noted late = with("r00100000;");
    late.set(3, 999);
    due("in mind from week 999", late.had(0, 60, 60, 0), 100);
  }

  // 48, 49, 50: 0 .. 999; 6 at most
  private static void past() {
    Noted x = with("w200;r00400000;");
    due("no times", x.past(0, 0), 60);
    due("no times: least", x.past(0, 1), 0);
    due("wipe of none", x.wipe(), 0);
    // 10 RUNNERS, GROWERS in week 0, TIRED by 0, SLY by 0, LOADED by 0, LETTING never
    due("time 800", x.time(800), 1);
    due("800", x.past(0, 0), 10 + 10 + 1 + 1 + 1);
    for (int k = 2; k <= 6; k++) due("time " + k, x.time(800), k);
    due("time 7", x.time(800), -6);
    due("time 7 below", x.time(-1), -4);
    due("time 7 above", x.time(1000), -6);
    // GROWERS by 0 and 1 are less by nothing in six weeks
    due("six times", x.past(0, 0), 10 + 2 + 1 + 1 + 1);
    due("times stay", x.count(18), 6);
    due("wipe of six", x.wipe(), 6);
    due("time 0", x.time(0), 1);
    due("none takes 0", x.past(0, 0), 0);
    due("none takes 0: least", x.past(0, 1), -9);
    x.wipe();
    due("time 999", x.time(999), 1);
    due("none takes 999", x.past(0, 1), -9);
    x.wipe();
    // 800 and 9 * 150 / 20 and 18: the greatest TIME is of LOADED by 9
    x.time(885);
    due("loaded by 9", x.past(0, 0) * 100 + x.past(0, 1), 149);
    x.wipe();
    // LETTING by 9 with START 0: 814 in an even week, 805 in an odd one
    x.time(814);
    x.time(805);
    due("letting by 9", x.past(0, 0) * 100 + x.past(0, 1), 159);
    x.set(3, 999);
    x.wipe();
    // a GROWER by 7: 800 less 699
    x.time(101);
    due("week 999", x.past(0, 0) * 100 + x.past(0, 1), 117);
    due("figure and kind stay", x.runner(0, 0) + x.runner(0, 1) + x.runner(0, 4), 0);
  }

  // 51, 52
  private static void images() {
    Noted x = new Noted();
    due("image of nothing", x.image(), 0);
    x.tell("w20;r59400599;m49;");
    x.set(3, 999);
    x.habit(3, 9);
    for (int k = 0; k < 6; k++) x.bag(9);
    due("image of week 999", x.twin().image(), 999);
    due("restored to nothing", x.restore(), 0);
    int[] want = {0, 100, 0, 0, 2, 0, 0, 0, 0, 0, 0};
    for (int w = 0; w < want.length; w++) due("restored to nothing: " + w, x.count(w), want[w]);
    Noted full = with("r01100001;r12110102;r23120203;r34130304;m49;w20;");
    for (int k = 1; k <= 6; k++) full.bag(k);
    for (int k = 0; k < 4; k++) full.habit(k, 2 * k - 3);
    full.run();
    String field = full.field();
    int[] held = {full.bags(0, 3, 0), full.bags(0, 3, 1), full.tried(20, 0), full.tried(20, 1)};
    due("image of all", full.image(), 1);
    full.empty();
    full.forget();
    full.tell("w200;m01;s099;s199;s299;s399;g;g;");
    for (int i = 0; i < 4; i++) full.kind(i, 5 - i, i);
    for (int times = 0; times < 2; times++) {
      full.run();
      due("restored", full.restore(), 1);
      same("restored to all", full.field(), field);
      due("bags", full.count(9), 6);
      due("clauses", full.count(10), 4);
      due("none to take back", full.count(17), 0);
      int[] got = {full.bags(0, 3, 0), full.bags(0, 3, 1), full.tried(20, 0), full.tried(20, 1)};
      for (int k = 0; k < 4; k++) due("held " + k, got[k], held[k]);
      full.bag(1);
      full.empty();
      full.forget();
    }
    Noted but = with("r00100000;");
    but.image();
    but.feed('w');
    but.row(5);
    but.time(6);
    but.bag(10);
    but.restore();
    due("letters, the row, told times, refusals stay", but.count(7) * 1000 + but.count(8) * 100 + but.count(18) * 10 + but.count(16), 1111);
    but.lane();
    but.clear();
    but.wipe();
    but.restore();
    due("nor do they come back", but.count(7) + but.count(8) + but.count(18), 0);
  }

  // 53
  private static void counts() {
    Noted x = with(many("r00100099;", 4) + "w20;m49;");
    for (int k = 0; k < 6; k++) x.bag(1);
    for (int k = 0; k < 4; k++) x.habit(0, 0);
    for (int k = 0; k < 12; k++) x.row(0);
    for (int k = 0; k < 6; k++) x.time(0);
    x.set(3, 992);
    for (int k = 0; k < 7; k++) x.run();
    for (int k = 0; k < 96; k++) x.feed(0);
    x.start(0, 99);
    x.set(3, 998);
    x.run();
    // START 90 and three of 99
    int[] want = {4, 20, 999, 4, 9, 99 * 3 + 90, 8, 96, 12, 6, 4, 0, 0, 0, 0, 0, 0, 1, 6};
    for (int w = 0; w < want.length; w++) due("full: count " + w, x.count(w), want[w]);
    for (int w : new int[] {-1, 19, 20, Integer.MIN_VALUE, Integer.MAX_VALUE}) due("another what " + w, x.count(w), -9);
    for (int w = 11; w <= 16; w++) due("nothing refused " + w, x.count(w), 0);
    x.runner(4, 0);
    x.sure(2);
    x.sure(2);
    for (int k = 0; k < 3; k++) x.restore();
    for (int k = 0; k < 4; k++) x.feed(-1);
    for (int k = 0; k < 6; k++) x.run();
    int[] refused = {1, 2, 3, 4, 0, 6};
    for (int w = 0; w < 6; w++) due("refused -" + (w + 1), x.count(11 + w), refused[w]);
    x.pays(4, 0);
    x.worth(0, -1);
    x.likely(0, 2);
    x.cup(4, 0, 0);
    x.bets(0);
    int[] more = {3, 3, 4, 5, 0, 6};
    for (int w = 0; w < 6; w++) due("refused far: -" + (w + 1), x.count(11 + w), more[w]);
  }
}
