/** A head start for the little one. ../shared/DOC.md says what each call promises, in the same words in capitals. */
public final class HeadStart {
  private static final int NOBODY = -1;
  private static final int OTHER = -2;
  private static final int STATE = -3;
  private static final int BELOW = -4;
  private static final int ROOM = -6;
  private static final int NONE = -9;

  private static final int MOST_RUNNERS = 4;
  private static final int MOST_START = 99;
  private static final int MOST_RACES = 60;
  private static final int MOST_WEEK = 999;

  private static final int RUNNER = 0;
  private static final int GROWER = 1;
  private static final int TIRED = 2;
  private static final int SLY = 3;
  private static final int LOADED = 4;
  private static final int LETTING = 5;

  private static final int MOST_RULE = 4;

  private final Field now = new Field();
  private final Field mind = new Field();
  private final Field aside = new Field();
  private final Field saved = new Field();
  private final Race race = new Race();
  private final Teller teller = new Teller();
  private final Row told = new Row(12);
  private final Row toldTimes = new Row(6);
  private final Row bags = new Row(6);
  private final Row savedBags = new Row(6);
  private final Habit habit = new Habit();
  private final Habit savedHabit = new Habit();
  private final Runs runs = new Runs();
  private final int[] refused = new int[7];
  private final int[][] table = new int[3][20];
  private boolean imaged = false;

  public HeadStart() {
  }

  public int feed(int letter) {
    if (letter < 0) return refuse(BELOW);
    if (letter > 255 || teller.letters.full()) return refuse(ROOM);
    return teller.letters.put(letter);
  }

  public int lane() {
    mind.take(now);
    int answer = teller.tell(mind);
    teller.letters.drop();
    if (answer > 0) {
      now.take(mind);
      runs.drop();
    }
    return answer;
  }

  public int runner(int runner, int what) {
    if (!now.has(runner)) return refuse(NOBODY);
    switch (what) {
      case 0: return now.kind[runner];
      case 1: return now.figure[runner];
      case 2: return now.pace[runner];
      case 3: return now.spread[runner];
      case 4: return now.start[runner];
      case 5: return now.tenths(runner);
      case 6: return now.wins[runner];
      default: return refuse(OTHER);
    }
  }

  public int start(int runner, int v) {
    if (!now.has(runner)) return refuse(NOBODY);
    if (v < 0) return refuse(BELOW);
    if (v > MOST_START) return refuse(ROOM);
    int was = now.start[runner];
    now.start[runner] = v;
    runs.drop();
    return was;
  }

  public int kind(int runner, int kind, int figure) {
    if (!now.has(runner)) return refuse(NOBODY);
    if (kind < RUNNER || kind > LETTING) return refuse(OTHER);
    if (figure < 0) return refuse(BELOW);
    if (figure > 9) return refuse(ROOM);
    int was = 10 * now.kind[runner] + now.figure[runner];
    now.kind[runner] = kind;
    now.figure[runner] = figure;
    runs.drop();
    return was;
  }

  public int set(int what, int v) {
    if (what < 0 || what > 3) return refuse(OTHER);
    if (what == 1 && (v < 0 || v > MOST_RULE)) return refuse(OTHER);
    if (v < leastOf(what)) return refuse(BELOW);
    if (v > mostOf(what)) return refuse(ROOM);
    int was = now.setting(what);
    now.become(what, v);
    runs.drop();
    return was;
  }

  public int run() {
    if (now.n == 0) return refuse(STATE);
    if (now.week >= MOST_WEEK) return refuse(ROOM);
    runs.keep(now);
    return race.goOn(now);
  }

  public int order() {
    race.asRule(now);
    return race.digits();
  }

  public long likely(int runner, int part) {
    if (!now.has(runner)) return refuseLong(NOBODY);
    if (noPart(part)) return refuseLong(OTHER);
    race.draw(now);
    return fraction(race.ways(runner), race.allWays(), part);
  }

  public long ordered(int digits, int part) {
    if (!now.eachOnce(digits)) return refuseLong(NOBODY);
    if (noPart(part)) return refuseLong(OTHER);
    race.draw(now);
    return fraction(race.waysOf(digits), race.allWays(), part);
  }

  public long close(int what, int part) {
    if (noPart(what) || noPart(part)) return refuseLong(OTHER);
    if (now.n < 2) return refuseLong(STATE);
    race.draw(now);
    int sum = what == 0 ? race.gapInAllWays() : race.uneven();
    return fraction(sum, race.allWays(), part);
  }

  public int sure(int what) {
    if (noPart(what)) return refuse(OTHER);
    race.draw(now);
    int wanted = what == 0 ? race.allWays() : 0;
    int bits = 0;
    for (int i = 0; i < now.n; i++) {
      if (race.ways(i) == wanted) bits |= 1 << i;
    }
    return bits;
  }

  public int even(int one, int other) {
    if (notTwo(one, other)) return refuse(NOBODY);
    int place = alone(one, other);
    int best = 0;
    int least = 17;
    for (int s = 0; s <= MOST_START; s++) {
      aside.start[1 - place] = s;
      race.draw(aside);
      int far = Math.abs(race.ways(place) - 8);
      if (far < least) {
        least = far;
        best = s;
      }
    }
    return best;
  }

  public int starts(int step, int i) {
    if (step < 5 || i < 0) return refuse(BELOW);
    if (step > 50) return refuse(ROOM);
    if (now.n == 0 || now.n > 3) return refuse(STATE);
    if (i >= now.n) return NONE;
    int many = MOST_START / step + 1;
    int code = evenest(step, many);
    for (int r = now.n - 1; r > i; r--) code /= many;
    return code % many * step;
  }

  public int load(int runner) {
    if (!now.has(runner)) return refuse(NOBODY);
    mind.take(now);
    mind.kind[runner] = LOADED;
    int best = 0;
    int least = 0;
    for (int f = 0; f <= 9; f++) {
      mind.figure[runner] = f;
      race.draw(mind);
      int uneven = race.uneven();
      if (f == 0 || uneven < least) {
        least = uneven;
        best = f;
      }
    }
    return best;
  }

  public int on(int runner, int n, int what) {
    if (!now.has(runner)) return refuse(NOBODY);
    if (n < 0) return refuse(BELOW);
    if (n > MOST_RACES) return refuse(ROOM);
    if (noPart(what)) return refuse(OTHER);
    mind.take(now);
    int won = winsIn(runner, n);
    return what == 0 ? mind.start[runner] : won;
  }

  public int settles() {
    if (now.n == 0) return refuse(STATE);
    mind.take(now);
    int from = 0;
    for (int k = 0; k < MOST_RACES; k++) {
      aside.take(mind);
      race.goOn(mind);
      if (!mind.startsAs(aside)) from = k + 1;
    }
    return from == MOST_RACES ? NONE : from;
  }

  public int best(int n) {
    if (n < 1) return refuse(BELOW);
    if (n > MOST_RACES) return refuse(ROOM);
    if (now.n < 2) return refuse(STATE);
    int best = 0;
    int least = 0;
    for (int rule = 0; rule <= MOST_RULE; rule++) {
      mind.take(now);
      mind.rule = rule;
      int sum = gaps(n, false);
      if (rule == 0 || sum < least) {
        least = sum;
        best = rule;
      }
    }
    return best;
  }

  public int pays(int runner, int n) {
    if (!now.has(runner)) return refuseHigh(NOBODY);
    if (n < 0) return refuseHigh(BELOW);
    if (n > MOST_RACES) return refuseHigh(ROOM);
    return winsAs(SLY, runner, n) - winsAs(RUNNER, runner, n);
  }

  public int worth(int runner, int s) {
    if (!now.has(runner)) return refuseHigh(NOBODY);
    if (s < 0) return refuseHigh(BELOW);
    if (s > MOST_START) return refuseHigh(ROOM);
    return gained(runner, s);
  }

  public int same(int one, int s, int other) {
    if (notTwo(one, other)) return refuse(NOBODY);
    if (s < 0) return refuse(BELOW);
    if (s > MOST_START) return refuse(ROOM);
    int wanted = gained(one, s);
    for (int t = 0; t <= MOST_START; t++) {
      if (gained(other, t) >= wanted) return t;
    }
    return NONE;
  }

  public int teams(int what) {
    if (noPart(what)) return refuse(OTHER);
    if (now.n < 2) return refuse(STATE);
    int all = (1 << now.n) - 1;
    int best = 1;
    int least = -1;
    for (int bits = 1; bits < all; bits += 2) {
      int far = apart(bits);
      if (least < 0 || far < least) {
        least = far;
        best = bits;
      }
    }
    return what == 0 ? best : least;
  }

  public int longer(int runner) {
    if (!now.has(runner)) return refuse(NOBODY);
    mind.take(now);
    for (int way = 20; way <= 200; way++) {
      mind.way = way;
      race.draw(mind);
      if (2 * race.ways(runner) >= race.allWays()) return way;
    }
    return NONE;
  }

  public int fits(int runner, int what) {
    if (!now.has(runner)) return refuse(NOBODY);
    if (noPart(what)) return refuse(OTHER);
    int many = 0;
    int least = NONE;
    for (int s = MOST_START; s >= 0; s--) {
      mind.take(now);
      mind.start[runner] = s;
      if (firstNotSo() < 0) {
        many++;
        least = s;
      }
    }
    return what == 0 ? many : least;
  }

  public int let() {
    if (now.n == 0) return refuse(STATE);
    race.asRule(now);
    int first = race.first();
    int bits = 0;
    for (int i = 0; i < now.n; i++) {
      mind.take(now);
      mind.kind[i] = RUNNER;
      race.asRule(mind);
      if (race.first() != first) bits |= 1 << i;
    }
    return bits;
  }

  public int row(int v) {
    if (v < 0) return refuse(BELOW);
    if (v > 99 || told.full()) return refuse(ROOM);
    return told.put(v);
  }

  public int judge() {
    mind.take(now);
    int at = firstNotSo();
    told.drop();
    return at < 0 ? NONE : at;
  }

  public int clear() {
    return told.drop();
  }

  public int seeds(int runner, int n, int z, int what) {
    if (!now.has(runner)) return refuse(NOBODY);
    if (n < 1) return refuse(BELOW);
    if (n > 20) return refuse(ROOM);
    if (noPart(what)) return refuse(OTHER);
    mind.take(now);
    int seed = z;
    int won = 0;
    int between = 0;
    for (int k = 0; k < n; k++) {
      seed = race.drawn(mind, seed);
      between += race.gap();
      if (race.first() == runner) won++;
      race.behind(mind);
    }
    return what == 0 ? won : between;
  }

  public int back() {
    if (runs.n == 0) return refuse(STATE);
    return runs.bring(now);
  }

  public int bag(int pounds) {
    if (pounds < 1) return refuse(BELOW);
    if (pounds > 9 || bags.full()) return refuse(ROOM);
    return bags.put(pounds);
  }

  public int empty() {
    return bags.drop();
  }

  public int bags(int one, int other, int what) {
    if (notTwo(one, other)) return refuse(NOBODY);
    if (noPart(what)) return refuse(OTHER);
    int best = 0;
    int least = 17;
    for (int bits = 0; bits < (1 << bags.n); bits++) {
      int far = Math.abs(carrying(one, other, bits) - 8);
      if (far < least) {
        least = far;
        best = bits;
      }
    }
    return what == 0 ? best : least;
  }

  public int ahead(int one, int other) {
    if (notTwo(one, other)) return refuse(NOBODY);
    return sixteenths(one, other);
  }

  public long cup(int runner, int bracket, int part) {
    if (!now.has(runner)) return refuseLong(NOBODY);
    if (bracket < 0 || bracket > 2 || noPart(part)) return refuseLong(OTHER);
    if (now.n != 4) return refuseLong(STATE);
    return fraction(cupWays(runner, bracket), 4096, part);
  }

  public int bracket(int runner) {
    if (!now.has(runner)) return refuse(NOBODY);
    if (now.n != 4) return refuse(STATE);
    int best = 0;
    int most = -1;
    for (int bracket = 0; bracket <= 2; bracket++) {
      int ways = cupWays(runner, bracket);
      if (ways > most) {
        most = ways;
        best = bracket;
      }
    }
    return best;
  }

  public long league(int runner, int part) {
    if (!now.has(runner)) return refuseLong(NOBODY);
    if (noPart(part)) return refuseLong(OTHER);
    return fraction(leagueWays(runner), 16, part);
  }

  public int ranks() {
    // who wins most stands first, as who takes least does in a race
    for (int i = 0; i < now.n; i++) race.tenths[i] = -leagueWays(i);
    race.n = now.n;
    race.line();
    return race.digits();
  }

  public int hold(int one, int other) {
    if (notTwo(one, other)) return refuse(NOBODY);
    for (int pair = 0; pair < 4; pair++) {
      int worth = holdWorth(one, other, pair);
      // what both have together is always the same, so less for the one is more for the other
      boolean oneStays = worth >= holdWorth(one, other, pair ^ 2);
      boolean otherStays = worth <= holdWorth(one, other, pair ^ 1);
      if (oneStays && otherStays) return pair;
    }
    return NONE;
  }

  public int legs(int one, int other, int l, int what) {
    if (notTwo(one, other)) return refuse(NOBODY);
    if (l < 0) return refuse(BELOW);
    if (l > 20) return refuse(ROOM);
    if (noPart(what)) return refuse(OTHER);
    int oneFirst = relay(one, other, l);
    int otherFirst = relay(other, one, l);
    if (what == 1) return Math.min(oneFirst, otherFirst);
    return oneFirst <= otherFirst ? one : other;
  }

  public int bet() {
    if (!betsTold()) return refuse(STATE);
    return bestBet();
  }

  public long bets(int part) {
    if (!betsTold()) return refuseLong(STATE);
    if (noPart(part)) return refuseLong(OTHER);
    int best = bestBet();
    return fraction(betWays(best), race.allWays(), part);
  }

  public int habit(int whom, int yards) {
    if (whom < 0 || whom > 3) return refuse(OTHER);
    if (yards < -9) return refuse(BELOW);
    if (yards > 9 || habit.whom.full()) return refuse(ROOM);
    return habit.put(whom, yards);
  }

  public int forget() {
    return habit.drop();
  }

  public int tried(int n, int what) {
    if (n < 0) return refuse(BELOW);
    if (n > MOST_RACES) return refuse(ROOM);
    if (noPart(what)) return refuse(OTHER);
    if (now.n < 2) return refuse(STATE);
    mind.take(now);
    mind.rule = 0;
    int sum = gaps(n, true);
    if (what == 0) return sum;
    mind.take(now);
    return sum < gaps(n, false) ? 1 : 0;
  }

  public int had(int runner, int n, int m, int what) {
    if (!now.has(runner)) return refuse(NOBODY);
    if (n < 0 || m < 0) return refuse(BELOW);
    if (n > MOST_RACES || m > n) return refuse(ROOM);
    if (noPart(what)) return refuse(OTHER);
    int many = 0;
    int least = NONE;
    for (int s = MOST_START; s >= 0; s--) {
      mind.take(now);
      mind.start[runner] = s;
      if (winsIn(runner, n) == m) {
        many++;
        least = s;
      }
    }
    return what == 0 ? many : least;
  }

  public int time(int tenths) {
    if (tenths < 0) return refuse(BELOW);
    if (tenths > 999 || toldTimes.full()) return refuse(ROOM);
    return toldTimes.put(tenths);
  }

  public int past(int runner, int what) {
    if (!now.has(runner)) return refuse(NOBODY);
    if (noPart(what)) return refuse(OTHER);
    int many = 0;
    int least = NONE;
    mind.take(now);
    for (int code = 59; code >= 0; code--) {
      mind.kind[runner] = code / 10;
      mind.figure[runner] = code % 10;
      if (tookThese(runner)) {
        many++;
        least = code;
      }
    }
    return what == 0 ? many : least;
  }

  public int wipe() {
    return toldTimes.drop();
  }

  public int image() {
    saved.take(now);
    savedBags.take(bags);
    savedHabit.take(habit);
    imaged = true;
    return now.week;
  }

  public int restore() {
    if (!imaged) return refuse(STATE);
    now.take(saved);
    bags.take(savedBags);
    habit.take(savedHabit);
    runs.drop();
    return now.week;
  }

  public int count(int what) {
    if (what >= 11 && what <= 16) return refused[what - 10];
    switch (what) {
      case 0: return now.n;
      case 1: return now.way;
      case 2: return now.week;
      case 3: return now.rule;
      case 4: return now.yard;
      case 5: return now.sum(now.start);
      case 6: return now.sum(now.wins);
      case 7: return teller.letters.n;
      case 8: return told.n;
      case 9: return bags.n;
      case 10: return habit.whom.n;
      case 17: return runs.n;
      case 18: return toldTimes.n;
      default: return NONE;
    }
  }

  private int refuse(int number) {
    int at = -number;
    if (at > 0 && at < refused.length) refused[at]++;
    return number;
  }

  private int refuseHigh(int number) {
    return 1000000000 - refuse(number);
  }

  private long refuseLong(int number) {
    return 4000000000000000000L - refuse(number);
  }

  private static boolean noPart(int part) {
    return part != 0 && part != 1;
  }

  private boolean notTwo(int one, int other) {
    return one == other || !now.has(one) || !now.has(other);
  }

  private static long fraction(long above, long below, int part) {
    long a = above;
    long b = below;
    // below is a power of two, so only twos can be in both
    for (int k = 0; k < 62 && a % 2 == 0 && b > 1; k++) {
      a /= 2;
      b /= 2;
    }
    return part == 0 ? a : b;
  }

  private static int leastOf(int what) {
    return what == 0 ? 20 : what == 2 ? 1 : 0;
  }

  private static int mostOf(int what) {
    switch (what) {
      case 0: return 200;
      case 1: return MOST_RULE;
      case 2: return 9;
      default: return MOST_WEEK;
    }
  }

  /** Sets two alone aside, the lesser number ahead; answers where the one stands there. */
  private int alone(int one, int other) {
    aside.takeTwo(now, Math.min(one, other), Math.max(one, other));
    return one < other ? 0 : 1;
  }

  private int sixteenths(int one, int other) {
    int place = alone(one, other);
    race.draw(aside);
    return race.ways(place);
  }

  /** Which of all STARTS by the step: a number with a digit below many for each, RUNNER 0's the highest. */
  private int evenest(int step, int many) {
    int all = 1;
    for (int r = 0; r < now.n && r < table.length; r++) {
      all *= many;
      for (int k = 0; k < many && k < table[r].length; k++) table[r][k] = now.tenthsFrom(r, k * step);
    }
    race.n = now.n;
    int best = 0;
    int least = 1;
    for (int code = 0; code < all && least > 0; code++) {
      putStarts(code, many);
      int uneven = race.uneven();
      if (code == 0 || uneven < least) {
        least = uneven;
        best = code;
      }
    }
    return best;
  }

  /** Puts the STARTS of a number where those of the number before it stand. */
  private void putStarts(int code, int many) {
    int rest = code;
    for (int r = now.n - 1; r >= 0; r--) {
      int k = many > 0 ? rest % many : 0;
      if (r < table.length && k < table[r].length) race.put(r, table[r][k], now.spread[r]);
      // digits above one that is not 0 are as before
      if (k != 0 || many <= 0) return;
      rest /= many;
    }
  }

  /** Goes on n races in mind: how many of them one wins. */
  private int winsIn(int runner, int n) {
    int won = 0;
    for (int k = 0; k < n; k++) {
      if (race.goOn(mind) == runner) won++;
    }
    return won;
  }

  private int winsAs(int kind, int runner, int n) {
    mind.take(now);
    mind.kind[runner] = kind;
    return winsIn(runner, n);
  }

  /** Goes on n races in mind: all gaps ahead of each together. */
  private int gaps(int n, boolean byHabit) {
    int sum = 0;
    for (int k = 0; k < n; k++) {
      race.goOn(mind);
      sum += race.gap();
      if (byHabit) habit.mend(mind, race);
    }
    return sum;
  }

  private int gained(int runner, int s) {
    return now.tenthsFrom(runner, 0) - now.tenthsFrom(runner, s);
  }

  private int apart(int bits) {
    int sum = 0;
    for (int i = 0; i < now.n; i++) {
      int t = now.tenthsOver(i, now.way / 2, 0);
      sum += ((bits >> i) & 1) != 0 ? t : -t;
    }
    return Math.abs(sum);
  }

  /** Goes on in mind: the first race that another wins than is told, -1 if there is none. */
  private int firstNotSo() {
    for (int k = 0; k < told.n; k++) {
      if (mind.n == 0 || race.goOn(mind) != told.at(k)) return k;
    }
    return -1;
  }

  /** Sixteenths in which the one is ahead with the BAGS of bits, the other with the rest. */
  private int carrying(int one, int other, int bits) {
    int place = alone(one, other);
    race.draw(aside);
    int mine = 0;
    int all = 0;
    for (int b = 0; b < bags.n; b++) {
      all += bags.at(b);
      if (((bits >> b) & 1) != 0) mine += bags.at(b);
    }
    race.put(place, now.tenths(one) + 2 * mine, now.spread[one]);
    race.put(1 - place, now.tenths(other) + 2 * (all - mine), now.spread[other]);
    return race.ways(place);
  }

  /** Of 4096. In each BRACKET the numbers of two who meet first differ in the same bits. */
  private int cupWays(int runner, int bracket) {
    int against = runner ^ (bracket + 1);
    int sum = 0;
    for (int j = 0; j < 4; j++) {
      if (j != runner && j != against) sum += sixteenths(j, j ^ (bracket + 1)) * sixteenths(runner, j);
    }
    return sixteenths(runner, against) * sum;
  }

  private int leagueWays(int runner) {
    int sum = 0;
    for (int j = 0; j < now.n; j++) {
      if (j != runner) sum += sixteenths(runner, j);
    }
    return sum;
  }

  /** What a pair of HOLD is worth to the one: of 32, the rest is the other's. */
  private int holdWorth(int one, int other, int pair) {
    int place = alone(one, other);
    int oneTakes = now.tenths(one) + (pair >= 2 ? now.figure[one] : 0);
    int otherTakes = now.tenths(other) + (pair % 2 != 0 ? now.figure[other] : 0);
    race.draw(aside);
    race.put(place, oneTakes, now.spread[one]);
    race.put(1 - place, otherTakes, now.spread[other]);
    int worth = race.ways(place);
    race.tenths[place] = oneTakes;
    race.tenths[1 - place] = otherTakes;
    race.line();
    race.behind(aside);
    race.draw(aside);
    return worth + race.ways(place);
  }

  private int relay(int first, int second, int l) {
    int yards = now.way / 2 + l;
    return now.tenthsOver(first, yards, 0) + now.tenthsOver(second, now.way - yards, 0);
  }

  private boolean betsTold() {
    if (now.n == 0 || told.n != now.n) return false;
    for (int i = 0; i < told.n; i++) {
      if (told.at(i) < 1 || told.at(i) > 9) return false;
    }
    return true;
  }

  private int bestBet() {
    race.draw(now);
    int best = 0;
    for (int i = 1; i < now.n; i++) {
      if (betWays(i) > betWays(best)) best = i;
    }
    return best;
  }

  private int betWays(int i) {
    return race.ways(i) * (told.at(i) + 1);
  }

  private boolean tookThese(int runner) {
    for (int k = 0; k < toldTimes.n; k++) {
      mind.week = now.week + k;
      if (mind.tenths(runner) != toldTimes.at(k)) return false;
    }
    return true;
  }

  /** Some numbers, as many as there is room for. */
  private static final class Row {
    final int[] cells;
    int n = 0;

    Row(int room) {
      cells = new int[Math.max(0, room)];
    }

    boolean full() {
      return n >= cells.length;
    }

    int put(int v) {
      if (!full()) cells[n++] = v;
      return n;
    }

    int at(int i) {
      return i >= 0 && i < n ? cells[i] : -1;
    }

    int drop() {
      int were = n;
      n = 0;
      return were;
    }

    void take(Row other) {
      n = Math.min(other.n, cells.length);
      for (int i = 0; i < n; i++) cells[i] = other.at(i);
    }
  }

  /** WAY, WEEK, RULE, YARD and the RUNNERS: as they are, or in mind. */
  private static final class Field {
    int way = 100;
    int week = 0;
    int rule = 0;
    int yard = 2;
    int n = 0;
    final int[] kind = new int[MOST_RUNNERS];
    final int[] figure = new int[MOST_RUNNERS];
    final int[] pace = new int[MOST_RUNNERS];
    final int[] spread = new int[MOST_RUNNERS];
    final int[] start = new int[MOST_RUNNERS];
    final int[] wins = new int[MOST_RUNNERS];

    Field() {
    }

    boolean has(int i) {
      return i >= 0 && i < n;
    }

    void take(Field other) {
      takeSettings(other);
      n = other.n;
      for (int i = 0; i < MOST_RUNNERS; i++) takeRunner(i, other, i);
    }

    void takeTwo(Field other, int lesser, int greater) {
      takeSettings(other);
      n = 2;
      takeRunner(0, other, lesser);
      takeRunner(1, other, greater);
    }

    void takeSettings(Field other) {
      way = other.way;
      week = other.week;
      rule = other.rule;
      yard = other.yard;
    }

    void takeRunner(int to, Field other, int from) {
      if (to < 0 || to >= MOST_RUNNERS || from < 0 || from >= MOST_RUNNERS) return;
      kind[to] = other.kind[from];
      figure[to] = other.figure[from];
      pace[to] = other.pace[from];
      spread[to] = other.spread[from];
      start[to] = other.start[from];
      wins[to] = other.wins[from];
    }

    int setting(int what) {
      return what == 0 ? way : what == 1 ? rule : what == 2 ? yard : week;
    }

    void become(int what, int v) {
      switch (what) {
        case 0: way = v; break;
        case 1: rule = v; break;
        case 2: yard = v; break;
        default: week = v; break;
      }
    }

    /** TIME as it stands. */
    int tenths(int i) {
      if (i < 0 || i >= n) return 1;
      return tenthsOver(i, way - start[i], start[i]);
    }

    /** TIME with another START. */
    int tenthsFrom(int i, int from) {
      return tenthsOver(i, way - from, from);
    }

    /** TIME over some yards; how LETTING one is hangs on the START too. */
    int tenthsOver(int i, int yards, int from) {
      if (i < 0 || i >= n) return 1;
      int y = yards < 1 ? 1 : yards;
      int t = pace[i] * y / 10;
      if (t < 1) t = 1;
      int f = figure[i];
      int k = kind[i];
      if (k == GROWER) t -= week * f / 10;
      if ((k == TIRED || k == LOADED) && y > 50) t += f * (y - 50) / 20;
      if (k == LOADED) t += 2 * f;
      if ((k == SLY || k == LETTING) && week % 2 == 0) t += f;
      if (k == LETTING && from == 0) t += 5;
      return t < 1 ? 1 : t;
    }

    void more(int i, int yards) {
      if (i < 0 || i >= n) return;
      int v = start[i] + yards;
      start[i] = v < 0 ? 0 : v > MOST_START ? MOST_START : v;
    }

    void mend(int first, int last) {
      if (rule == 1 || rule == 3 || rule == 4) more(first, -yard);
      if (rule == 2 || rule == 3) more(last, yard);
      for (int i = 0; rule == 4 && i < n; i++) {
        if (i != first) more(i, 1);
      }
    }

    boolean startsAs(Field other) {
      for (int i = 0; i < n && i < MOST_RUNNERS; i++) {
        if (start[i] != other.start[i]) return false;
      }
      return true;
    }

    int sum(int[] of) {
      int sum = 0;
      for (int i = 0; i < n && i < of.length; i++) sum += of[i];
      return sum;
    }

    boolean eachOnce(int digits) {
      if (digits < 0) return false;
      int rest = digits;
      int seen = 0;
      for (int p = 0; p < n; p++) {
        seen |= 1 << (rest % 10);
        rest /= 10;
      }
      return rest == 0 && seen == (1 << n) - 1;
    }
  }

  /** One race: what each can take, what each takes, and who comes where. */
  private static final class Race {
    int n = 0;
    final int[] low = new int[MOST_RUNNERS];
    final int[] mid = new int[MOST_RUNNERS];
    final int[] high = new int[MOST_RUNNERS];
    final int[] tenths = new int[MOST_RUNNERS];
    final int[] places = new int[MOST_RUNNERS];

    Race() {
    }

    /** What each can take, by chance. */
    void draw(Field f) {
      n = f.n;
      for (int i = 0; i < n; i++) put(i, f.tenths(i), f.spread[i]);
    }

    void put(int i, int time, int spread) {
      if (i < 0 || i >= MOST_RUNNERS) return;
      low[i] = Math.max(1, time - spread);
      mid[i] = time;
      high[i] = time + spread;
    }

    int allWays() {
      return 1 << (2 * n);
    }

    /** In how many of all ways one is first. */
    int ways(int i) {
      if (i < 0 || i >= n) return 0;
      return waysAt(i, low[i]) + 2 * waysAt(i, mid[i]) + waysAt(i, high[i]);
    }

    int waysAt(int i, int t) {
      int ways = 1;
      for (int j = 0; j < n; j++) {
        // a lesser number must take more to be behind
        if (j != i) ways *= quarters(j, j < i ? t + 1 : t);
      }
      return ways;
    }

    /** In how many quarters one takes t or more. */
    int quarters(int j, int t) {
      return low[j] >= t ? 4 : mid[j] >= t ? 3 : high[j] >= t ? 1 : 0;
    }

    int uneven() {
      int most = 0;
      int least = allWays();
      for (int i = 0; i < n; i++) {
        int ways = ways(i);
        most = Math.max(most, ways);
        least = Math.min(least, ways);
      }
      return most - least;
    }

    int outcomes() {
      int many = 1;
      for (int i = 0; i < n; i++) many *= 3;
      return many;
    }

    /** All take what an outcome tells: in how many of all ways it comes. */
    int deal(int code) {
      int rest = code;
      int ways = 1;
      for (int i = 0; i < n; i++) {
        int third = rest % 3;
        rest /= 3;
        tenths[i] = third == 0 ? low[i] : third == 1 ? mid[i] : high[i];
        if (third == 1) ways *= 2;
      }
      line();
      return ways;
    }

    /** In how many of all ways they come in a told ORDER. */
    int waysOf(int digits) {
      int many = outcomes();
      int sum = 0;
      for (int code = 0; code < many; code++) {
        int ways = deal(code);
        if (digits() == digits) sum += ways;
      }
      return sum;
    }

    /** The gaps of all ways together. */
    int gapInAllWays() {
      int many = outcomes();
      int sum = 0;
      for (int code = 0; code < many; code++) {
        int ways = deal(code);
        sum += ways * gap();
      }
      return sum;
    }

    /** All take what the DRAWS tell: the seed behind them. */
    int drawn(Field f, int seed) {
      draw(f);
      int z = seed;
      for (int i = 0; i < n; i++) {
        z = z * 1103515245 + 12345;
        int draw = (z & 0x7fffffff) / 65536 % 4;
        tenths[i] = draw == 0 ? low[i] : draw == 3 ? high[i] : mid[i];
      }
      line();
      return z;
    }

    /** All take their TIMES. */
    void asRule(Field f) {
      n = f.n;
      for (int i = 0; i < n; i++) tenths[i] = f.tenths(i);
      line();
    }

    /** They RUN as a rule: who has WON. */
    int goOn(Field f) {
      asRule(f);
      int first = first();
      if (f.has(first)) f.wins[first]++;
      behind(f);
      return first;
    }

    /** What comes behind each race. */
    void behind(Field f) {
      f.mend(first(), last());
      f.week++;
    }

    void line() {
      for (int i = 0; i < n; i++) {
        int place = 0;
        for (int j = 0; j < n; j++) {
          if (tenths[j] < tenths[i] || (tenths[j] == tenths[i] && j < i)) place++;
        }
        places[place] = i;
      }
    }

    int first() {
      return n > 0 ? places[0] : -1;
    }

    int last() {
      return n > 0 ? places[n - 1] : -1;
    }

    int gap() {
      return n > 1 ? tenths[places[1]] - tenths[places[0]] : 0;
    }

    int digits() {
      int digits = 0;
      for (int p = n - 1; p >= 0; p--) digits = 10 * digits + places[p];
      return digits;
    }
  }

  /** The clauses of a HABIT. */
  private static final class Habit {
    final Row whom = new Row(4);
    final Row yards = new Row(4);

    Habit() {
    }

    int put(int who, int many) {
      yards.put(many);
      return whom.put(who);
    }

    int drop() {
      yards.drop();
      return whom.drop();
    }

    void take(Habit other) {
      whom.take(other.whom);
      yards.take(other.yards);
    }

    void mend(Field f, Race race) {
      for (int c = 0; c < whom.n; c++) {
        for (int i = 0; i < f.n; i++) {
          if (means(whom.at(c), i == race.first(), i == race.last())) f.more(i, yards.at(c));
        }
      }
    }

    static boolean means(int who, boolean first, boolean last) {
      switch (who) {
        case 0: return first;
        case 1: return last;
        case 2: return !first && !last;
        default: return true;
      }
    }
  }

  /** What was ahead of each RUN that can be taken BACK, the oldest first. */
  private static final class Runs {
    static final int MOST = 6;
    final int[][] starts = new int[MOST][MOST_RUNNERS];
    final int[][] wins = new int[MOST][MOST_RUNNERS];
    final int[] weeks = new int[MOST];
    int n = 0;

    Runs() {
    }

    void keep(Field f) {
      if (n == MOST) loseOldest();
      for (int i = 0; i < MOST_RUNNERS; i++) {
        starts[n][i] = f.start[i];
        wins[n][i] = f.wins[i];
      }
      weeks[n] = f.week;
      n++;
    }

    void loseOldest() {
      for (int k = 1; k < MOST; k++) {
        for (int i = 0; i < MOST_RUNNERS; i++) {
          starts[k - 1][i] = starts[k][i];
          wins[k - 1][i] = wins[k][i];
        }
        weeks[k - 1] = weeks[k];
      }
      n = MOST - 1;
    }

    int bring(Field f) {
      if (n == 0) return 0;
      n--;
      for (int i = 0; i < MOST_RUNNERS; i++) {
        f.start[i] = starts[n][i];
        f.wins[i] = wins[n][i];
      }
      f.week = weeks[n];
      return n;
    }

    void drop() {
      n = 0;
    }
  }

  /** Tells a LANE from its letters. */
  private static final class Teller {
    final Row letters = new Row(96);
    final Race race = new Race();

    Teller() {
    }

    /** How many STATEMENTS have come to the field, or the FAULT. */
    int tell(Field f) {
      int fault = firstFault();
      if (fault >= 0) return -1000 - fault;
      int at = 0;
      int many = 0;
      for (int k = 0; k < letters.n && at < letters.n; k++) {
        if (!comes(f, at)) return -2000 - at;
        at = behind(at);
        many++;
      }
      return many;
    }

    /** The first letter with which no LANE can go on, -1 if there is none. */
    int firstFault() {
      if (letters.n == 0) return 0;
      int at = 0;
      for (int k = 0; k < letters.n && at < letters.n; k++) {
        int behind = behind(at);
        if (behind < 0) return -1 - behind;
        at = behind;
      }
      return -1;
    }

    /** The place behind the STATEMENT at a place, or -1 less the place at which it is none. */
    int behind(int at) {
      int most = mostDigits(letters.at(at));
      if (most < 0) return -1 - at;
      int least = letters.at(at) == 'w' ? 1 : most;
      int p = at + 1;
      for (int k = 0; k < most && digit(p) >= 0; k++) p++;
      if (p - at - 1 < least || letters.at(p) != ';') return -1 - p;
      return p + 1;
    }

    static int mostDigits(int letter) {
      switch (letter) {
        case 'w': return 3;
        case 'r': return 8;
        case 'm': return 2;
        case 's': return 3;
        case 'g': return 0;
        default: return -1;
      }
    }

    int digit(int p) {
      int letter = letters.at(p);
      return letter >= '0' && letter <= '9' ? letter - '0' : -1;
    }

    int two(int p) {
      return 10 * digit(p) + digit(p + 1);
    }

    /** Whether the STATEMENT at a place is as it must be; then it comes. */
    boolean comes(Field f, int at) {
      switch (letters.at(at)) {
        case 'w': return wayComes(f, at);
        case 'r': return runnerComes(f, at);
        case 'm': return ruleComes(f, at);
        case 's': return startComes(f, at);
        default: return f.n > 0 && f.week < MOST_WEEK && race.goOn(f) >= 0;
      }
    }

    boolean wayComes(Field f, int at) {
      int way = 0;
      for (int p = at + 1; p <= at + 3 && digit(p) >= 0; p++) way = 10 * way + digit(p);
      if (way < 20 || way > 200) return false;
      f.way = way;
      return true;
    }

    boolean runnerComes(Field f, int at) {
      int kind = digit(at + 1);
      int pace = two(at + 3);
      int spread = two(at + 5);
      if (f.n >= MOST_RUNNERS || kind > LETTING || pace < 5 || pace > 40 || spread > 20) return false;
      f.kind[f.n] = kind;
      f.figure[f.n] = digit(at + 2);
      f.pace[f.n] = pace;
      f.spread[f.n] = spread;
      f.start[f.n] = two(at + 7);
      f.wins[f.n] = 0;
      f.n++;
      return true;
    }

    boolean ruleComes(Field f, int at) {
      int rule = digit(at + 1);
      int yard = digit(at + 2);
      if (rule > MOST_RULE || yard < 1) return false;
      f.rule = rule;
      f.yard = yard;
      return true;
    }

    boolean startComes(Field f, int at) {
      int runner = digit(at + 1);
      if (!f.has(runner)) return false;
      f.start[runner] = two(at + 2);
      return true;
    }
  }
}
