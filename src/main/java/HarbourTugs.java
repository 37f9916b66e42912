/** Tugs of two firms that are sent to the ships of one harbour; DOC.md tells every promise. */
public final class HarbourTugs {
  public static final int BAD = -1, NO = -2, FULL = -3, NONE = -4;

  private static final int HOURS = 48;
  private static final int LAST_HOUR = 47;
  private static final int TIDES = 12;
  private static final int BERTHS = 6;
  private static final int MOST_TUGS = 6;
  private static final int MOST_SHIPS = 8;
  private static final int MOST_RULES = 12;
  private static final int MOST_KEPT = 3;
  private static final int MOST_PLANNED = 4;
  private static final int MOST_ORDERS = 24;
  private static final int MOST_AMOUNT = 1000000;
  private static final int BUNKERED = 12;
  private static final int UNSERVED_HOUR = 60;
  private static final int CHECKS = 12;
  private static final int BAD_ABOUT = -100;
  private static final long BAD_PRICE = -1000000001L;
  private static final long NO_PRICE = -1000000002L;

  private final Berths berths = new Berths();
  private final Harbour now = new Harbour(berths);
  private final Planner planner = new Planner(berths);
  private final Prices prices = new Prices();
  private final Harbour[] kept = new Harbour[MOST_KEPT];
  private int keptCount = 0;

  /** No tugs, no ships, no rules. */
  public HarbourTugs() {
    for (int i = 0; i < kept.length; i++) {
      kept[i] = new Harbour(berths);
    }
  }

  // ---- what is told

  public int tide(int hour, int v) {
    if (!within(hour, 0, TIDES - 1) || !within(v, 0, 9)) {
      return BAD;
    }
    int was = now.tide[hour];
    now.tide[hour] = v;
    return was;
  }

  public int wind(int hour, int v) {
    if (!isHour(hour) || !within(v, 0, 9)) {
      return BAD;
    }
    int was = now.wind[hour];
    now.wind[hour] = v;
    return was;
  }

  public int rule(int what, int v) {
    int was = BAD;
    if (what == 0 && within(v, 0, 6)) {
      was = now.rest;
      now.rest = v;
    } else if (what == 1 && within(v, 0, 1)) {
      was = now.fire;
      now.fire = v;
    } else if (what == 2 && within(v, 1, 30)) {
      was = now.speed;
      now.speed = v;
    }
    return was;
  }

  public int berth(int berth, int what, int v) {
    if (!isBerth(berth) || !within(what, 0, 1) || !within(v, 0, what == 0 ? 60 : 1)) {
      return BAD;
    }
    if (now.isBerthUsed(berth)) {
      return NO;
    }
    int[] told = what == 0 ? berths.place : berths.basin;
    int was = told[berth];
    told[berth] = v;
    return was;
  }

  public int way(int from, int to) {
    if (!isBerth(from) || !isBerth(to)) {
      return BAD;
    }
    return berths.hoursBetween(from, to, now.speed);
  }

  public int tug(int firm, int pull, int kind, int fuel, int tank, int crew, int home) {
    if (!within(firm, 0, 1) || !within(pull, 1, 60) || !within(kind, 0, 1)
        || !within(tank, 1, 48) || !within(fuel, 0, tank) || !within(crew, 1, 12)
        || !isBerth(home)) {
      return BAD;
    }
    int number = now.tugCount;
    if (!within(number, 0, MOST_TUGS - 1)) {
      return FULL;
    }
    now.tugs[number].come(firm, pull, kind, fuel, tank, crew, home);
    now.tugCount = number + 1;
    return number;
  }

  public int ship(int size, int draft, int ready, int length, int weight, int from, int to) {
    if (!within(size, 1, 50) || !within(draft, 0, 9) || !isHour(ready)
        || !within(length, 1, 4) || !within(weight, 1, 20) || !isBerth(from) || !isBerth(to)) {
      return BAD;
    }
    int number = now.shipCount;
    if (!within(number, 0, MOST_SHIPS - 1)) {
      return FULL;
    }
    now.ships[number].come(size, draft, ready, length, weight, from, to);
    now.shipCount = number + 1;
    return number;
  }

  public int needs(int ship, int hour) {
    if (!isShip(ship) || !isHour(hour)) {
      return BAD;
    }
    return now.neededPull(now.ships[ship], hour);
  }

  public int bunker(int tug, int hour) {
    if (!isTug(tug) || !isHour(hour)) {
      return BAD;
    }
    Tug taker = now.tugs[tug];
    long bit = 1L << hour;
    if (!taker.isFree(bit) || taker.isBroken(hour) || (now.storm & bit) != 0) {
      return NO;
    }
    taker.bunkers |= bit;
    return taker.fuelBehind(LAST_HOUR);
  }

  public int fuel(int tug, int hour) {
    if (!isTug(tug) || !within(hour, -1, LAST_HOUR)) {
      return BAD;
    }
    return now.tugs[tug].fuelBehind(hour);
  }

  // ---- jobs

  public int may(int ship, int hour, int set) {
    if (!isShip(ship) || !isHour(hour) || !isSet(set)) {
      return BAD;
    }
    Ship asked = now.ships[ship];
    return asked.hasJob() ? NO : now.failsBy(asked, hour, set);
  }

  public int lay(int ship, int hour, int set) {
    if (!isShip(ship) || !isHour(hour) || !isSet(set)) {
      return BAD;
    }
    Ship asked = now.ships[ship];
    if (asked.hasJob() || now.failsBy(asked, hour, set) != 0) {
      return NO;
    }
    now.put(asked, hour, set);
    return 0;
  }

  public int off(int ship) {
    if (!isShip(ship)) {
      return BAD;
    }
    Ship asked = now.ships[ship];
    if (!asked.hasJob()) {
      return NO;
    }
    int began = asked.hour;
    now.lift(asked);
    return began;
  }

  public int best(int ship, int what) {
    if (!isShip(ship) || !within(what, 0, 1)) {
      return BAD;
    }
    Ship asked = now.ships[ship];
    if (asked.hasJob()) {
      return NO;
    }
    int hour = now.seekBest(asked);
    return hour == NONE || what == 0 ? hour : now.bestSet;
  }

  public int job(int ship, int what) {
    if (!isShip(ship) || !within(what, 0, 1)) {
      return BAD;
    }
    Ship asked = now.ships[ship];
    if (!asked.hasJob()) {
      return NONE;
    }
    return what == 0 ? asked.hour : asked.set;
  }

  // ---- plans

  public int order(int n, int i) {
    if (!isPlanned(n)) {
      return BAD;
    }
    planner.findOrder(now, n);
    if (i == -1) {
      return planner.waited;
    }
    return within(i, 0, n - 1) ? planner.chosen[i] : NONE;
  }

  public int layOrder(int n) {
    if (!isPlanned(n)) {
      return BAD;
    }
    planner.findOrder(now, n);
    now.clearPlan();
    return now.layEach(planner.chosen, n);
  }

  public int mended(int n, int what) {
    if (!isPlanned(n) || !within(what, 0, 3)) {
      return BAD;
    }
    planner.findMended(now, n);
    switch (what) {
      case 0: return planner.served;
      case 1: return Integer.bitCount(planner.lifted);
      case 2: return planner.waited;
      default: return planner.lifted;
    }
  }

  public int layMended(int n) {
    if (!isPlanned(n)) {
      return BAD;
    }
    planner.findMended(now, n);
    now.liftAll(planner.lifted);
    return now.layEach(planner.byNumbers, n);
  }

  // ---- what goes wrong

  public int breaks(int tug, int hour) {
    if (!isTug(tug) || !isHour(hour)) {
      return BAD;
    }
    return now.tugs[tug].isBroken(hour) ? NO : now.breakDown(tug, hour);
  }

  public int mend(int tug) {
    if (!isTug(tug)) {
      return BAD;
    }
    return now.tugs[tug].makeWhole() ? 1 : 0;
  }

  public int storm(int a, int b) {
    if (!isHour(a) || !isHour(b) || a > b) {
      return BAD;
    }
    return now.blow(a, b);
  }

  public int calm() {
    int were = Long.bitCount(now.storm);
    now.storm = 0;
    return were;
  }

  // ---- money, books

  public int priceRule(int test, int v, int kind, int amount) {
    if (!within(test, 0, 6) || !within(v, 0, 400) || !within(kind, 0, 1)) {
      return BAD;
    }
    if (kind == 0 ? !within(amount, -1000, 100000) : !within(amount, -100, 1000)) {
      return BAD;
    }
    return prices.tell(test, v, kind, amount) ? prices.count : FULL;
  }

  public long price(int ship) {
    if (!isShip(ship)) {
      return BAD_PRICE;
    }
    Ship asked = now.ships[ship];
    return asked.hasJob() ? prices.priceOf(now, asked) : NO_PRICE;
  }

  public int pool(int firm, int amount) {
    if (!within(firm, 0, 1) || !within(amount, 0, MOST_AMOUNT)) {
      return BAD;
    }
    long second = now.pullHours(1);
    long all = now.pullHours(0) + second;
    int gets = all <= 0 ? 0 : (int) (amount * second / all);
    return firm == 1 ? gets : amount - gets;
  }

  public long work(int tug, int what) {
    if (!isTug(tug) || !within(what, 0, 1)) {
      return BAD;
    }
    return what == 0 ? now.tugs[tug].work : now.tugs[tug].bunkers;
  }

  public int about(int tug, int what) {
    if (!isTug(tug)) {
      return BAD_ABOUT;
    }
    Tug asked = now.tugs[tug];
    switch (what) {
      case 0: return asked.firm;
      case 1: return asked.pull;
      case 2: return asked.kind;
      case 3: return asked.tank;
      case 4: return asked.crew;
      case 5: return asked.home;
      case 6: return asked.brokenFrom == HOURS ? NONE : asked.brokenFrom;
      case 7: return now.lastBerth(tug);
      default: return BAD_ABOUT;
    }
  }

  public int keep() {
    if (!within(keptCount, 0, kept.length - 1)) {
      return FULL;
    }
    kept[keptCount].copyFrom(now);
    keptCount++;
    return keptCount;
  }

  public int back() {
    int last = keptCount - 1;
    if (!within(last, 0, kept.length - 1)) {
      return NO;
    }
    now.copyFrom(kept[last]);
    keptCount = last;
    return keptCount;
  }

  public int count(int what) {
    switch (what) {
      case 0: return now.tugCount;
      case 1: return now.shipCount;
      case 2: return now.jobsLaid();
      case 3: return Long.bitCount(now.storm);
      case 4: return now.laidEver;
      case 5: return now.takenOffEver;
      case 6: return now.lostByBreaking;
      case 7: return now.lostByStorm;
      case 8: return prices.count;
      case 9: return keptCount;
      default: return BAD;
    }
  }

  // ---- what may be asked

  private static boolean within(int v, int least, int most) {
    return v >= least && v <= most;
  }

  private static boolean isHour(int hour) {
    return within(hour, 0, LAST_HOUR);
  }

  private static boolean isBerth(int berth) {
    return berth >= 0 && berth < BERTHS;
  }

  private boolean isTug(int tug) {
    return within(tug, 0, MOST_TUGS - 1) && tug < now.tugCount;
  }

  private boolean isShip(int ship) {
    return within(ship, 0, MOST_SHIPS - 1) && ship < now.shipCount;
  }

  private boolean isSet(int set) {
    return within(set, 1, (1 << now.tugCount) - 1);
  }

  private boolean isPlanned(int n) {
    return within(n, 1, MOST_PLANNED) && n <= now.shipCount;
  }

  /** The hours ahead of one, as bits. */
  private static long hoursAhead(int hour) {
    return (1L << hour) - 1;
  }

  private static boolean isIn(int tug, int set) {
    return (set >>> tug & 1) != 0;
  }

  /** Places and basins; one for all states, since what is kept leaves them out. */
  private static final class Berths {
    final int[] place = new int[BERTHS];
    final int[] basin = new int[BERTHS];

    Berths() {
      for (int i = 0; i < place.length; i++) {
        place[i] = 10 * i;
      }
    }

    int hoursBetween(int from, int to, int speed) {
      if (!isBerth(from) || !isBerth(to) || speed <= 0) {
        return 0;
      }
      int apart = place[from] > place[to] ? place[from] - place[to] : place[to] - place[from];
      return (apart + speed - 1) / speed;
    }

    private int basinsOf(Ship ship) {
      if (!isBerth(ship.from) || !isBerth(ship.to)) {
        return 0;
      }
      return 1 << basin[ship.from] | 1 << basin[ship.to];
    }

    boolean shareBasin(Ship one, Ship other) {
      return (basinsOf(one) & basinsOf(other)) != 0;
    }
  }

  private static final class Tug {
    int firm;
    int pull;
    int kind;
    int fuelFirst;
    int tank;
    int crew;
    int home;
    int brokenFrom = HOURS; // HOURS: it is whole
    long work;
    long bunkers;

    void come(int firm, int pull, int kind, int fuel, int tank, int crew, int home) {
      this.firm = firm;
      this.pull = pull;
      this.kind = kind;
      this.fuelFirst = fuel;
      this.tank = tank;
      this.crew = crew;
      this.home = home;
      brokenFrom = HOURS;
      work = 0;
      bunkers = 0;
    }

    void copyFrom(Tug other) {
      come(other.firm, other.pull, other.kind, other.fuelFirst, other.tank, other.crew, other.home);
      brokenFrom = other.brokenFrom;
      work = other.work;
      bunkers = other.bunkers;
    }

    boolean isBroken(int hour) {
      return brokenFrom <= hour;
    }

    /** False: it was whole. */
    boolean makeWhole() {
      boolean was = brokenFrom != HOURS;
      brokenFrom = HOURS;
      return was;
    }

    boolean isFree(long hours) {
      return ((work | bunkers) & hours) == 0;
    }

    int fuelBehind(int hour) {
      int left = fuelFirst;
      for (int h = 0; h <= hour && h < HOURS; h++) {
        left = fuelAfter(left, h, work);
      }
      return left;
    }

    boolean fuelLasts(long workThen) {
      // Bunkers never take fuel away, so hours of work alone are a safe bound.
      if (Long.bitCount(workThen) <= fuelFirst) {
        return true;
      }
      int left = fuelFirst;
      for (int h = 0; h < HOURS; h++) {
        left = fuelAfter(left, h, workThen);
        if (left < 0) {
          return false;
        }
      }
      return true;
    }

    private int fuelAfter(int left, int hour, long workThen) {
      int then = left - (int) (workThen >>> hour & 1L);
      if ((bunkers >>> hour & 1L) == 0) {
        return then;
      }
      return then + BUNKERED > tank ? tank : then + BUNKERED;
    }

    boolean crewRests(long workThen, int rest) {
      if (Long.bitCount(workThen) <= crew) {
        return true;
      }
      int span = crew + rest;
      for (int first = 0; first + span <= HOURS; first++) {
        if (Long.bitCount(workThen >>> first & hoursAhead(span)) > crew) {
          return false;
        }
      }
      return true;
    }
  }

  private static final class Ship {
    int size;
    int draft;
    int ready;
    int length;
    int weight;
    int from;
    int to;
    int hour = NONE; // NONE: no job is laid
    int set;

    void come(int size, int draft, int ready, int length, int weight, int from, int to) {
      this.size = size;
      this.draft = draft;
      this.ready = ready;
      this.length = length;
      this.weight = weight;
      this.from = from;
      this.to = to;
      dropJob();
    }

    void copyFrom(Ship other) {
      come(other.size, other.draft, other.ready, other.length, other.weight, other.from, other.to);
      hour = other.hour;
      set = other.set;
    }

    boolean hasJob() {
      return hour != NONE;
    }

    boolean hasJobWith(int tug) {
      return hour != NONE && (set >>> tug & 1) != 0;
    }

    void dropJob() {
      hour = NONE;
      set = 0;
    }

    int lastHour() {
      return hour + length - 1;
    }

    boolean isInTime(int begin) {
      return begin >= ready && begin + length <= HOURS;
    }

    /** The hours of a job that begins then, as bits. */
    long hoursFrom(int begin) {
      return hoursAhead(length) << begin;
    }

    long jobHours() {
      return hasJob() ? hoursFrom(hour) : 0;
    }

    int waited() {
      return weight * ((hasJob() ? hour : UNSERVED_HOUR) - ready);
    }
  }

  /** All that keep() keeps, and what may be done in it. */
  private static final class Harbour {
    final Berths berths;
    final int[] tide = new int[TIDES];
    final int[] wind = new int[HOURS];
    final Tug[] tugs = new Tug[MOST_TUGS];
    final Ship[] ships = new Ship[MOST_SHIPS]; // a slot without a ship has no job
    int rest = 2;
    int fire = 0;
    int speed = 10;
    long storm = 0;
    int tugCount = 0;
    int shipCount = 0;
    int laidEver = 0;
    int takenOffEver = 0;
    int lostByBreaking = 0;
    int lostByStorm = 0;
    int bestSet = 0; // what seekBest() found beside the hour

    Harbour(Berths berths) {
      this.berths = berths;
      for (int i = 0; i < tide.length; i++) {
        tide[i] = 5;
      }
      for (int i = 0; i < tugs.length; i++) {
        tugs[i] = new Tug();
      }
      for (int i = 0; i < ships.length; i++) {
        ships[i] = new Ship();
      }
    }

    void copyFrom(Harbour other) {
      System.arraycopy(other.tide, 0, tide, 0, TIDES);
      System.arraycopy(other.wind, 0, wind, 0, HOURS);
      for (int i = 0; i < MOST_TUGS; i++) {
        tugs[i].copyFrom(other.tugs[i]);
      }
      for (int i = 0; i < MOST_SHIPS; i++) {
        ships[i].copyFrom(other.ships[i]);
      }
      rest = other.rest;
      fire = other.fire;
      speed = other.speed;
      storm = other.storm;
      tugCount = other.tugCount;
      shipCount = other.shipCount;
      laidEver = other.laidEver;
      takenOffEver = other.takenOffEver;
      lostByBreaking = other.lostByBreaking;
      lostByStorm = other.lostByStorm;
    }

    int jobsLaid() {
      int laid = 0;
      for (Ship ship : ships) {
        if (ship.hasJob()) {
          laid++;
        }
      }
      return laid;
    }

    boolean isBerthUsed(int berth) {
      for (Ship ship : ships) {
        if (ship.hasJob() && (ship.from == berth || ship.to == berth)) {
          return true;
        }
      }
      return false;
    }

    long pullHours(int firm) {
      long sum = 0;
      for (Tug tug : tugs) {
        if (tug.firm == firm) {
          sum += (long) tug.pull * Long.bitCount(tug.work);
        }
      }
      return sum;
    }

    int lastBerth(int tug) {
      Ship last = jobBefore(tug, HOURS);
      return last == null ? tugs[tug].home : last.to;
    }

    // ---- what a job needs

    int neededPull(Ship ship, int hour) {
      return within(hour, 0, LAST_HOUR) ? ship.size + ship.size * wind[hour] / 5 : 0;
    }

    /** The most that is needed in one of the hours begin to last. */
    int mostNeeded(Ship ship, int begin, int last) {
      int most = 0;
      for (int h = begin; h <= last && h < HOURS; h++) {
        most = Math.max(most, neededPull(ship, h));
      }
      return most;
    }

    int pullOf(int set) {
      int sum = 0;
      for (int t = 0; t < tugs.length; t++) {
        if (isIn(t, set)) {
          sum += tugs[t].pull;
        }
      }
      return sum;
    }

    private boolean canPullAstern(int set) {
      for (int t = 0; t < tugs.length; t++) {
        if (isIn(t, set) && tugs[t].kind == 1) {
          return true;
        }
      }
      return false;
    }

    /** The hours in which the tide is too low for a ship. */
    private long lowHours(Ship ship) {
      long low = 0;
      for (int h = 0; h < HOURS; h++) {
        if (tide[h % TIDES] < ship.draft) {
          low |= 1L << h;
        }
      }
      return low;
    }

    /** The hours in which jobs laid have a basin of a ship's. */
    private long basinHours(Ship ship) {
      long taken = 0;
      for (Ship other : ships) {
        if (other.hasJob() && berths.shareBasin(ship, other)) {
          taken |= other.jobHours();
        }
      }
      return taken;
    }

    /** In each of the hours a tug outside the set is left for fire. */
    private boolean isGuarded(Ship ship, int begin, int set) {
      for (int h = begin; h < begin + ship.length; h++) {
        if (!hasIdle(h, set)) {
          return false;
        }
      }
      return true;
    }

    private boolean hasIdle(int hour, int set) {
      for (int t = 0; t < tugCount && t < tugs.length; t++) {
        if (!isIn(t, set) && (tugs[t].work >>> hour & 1L) == 0 && !tugs[t].isBroken(hour)) {
          return true;
        }
      }
      return false;
    }

    /** The ship of a tug's job that ends last ahead of an hour; null: there is none. */
    private Ship jobBefore(int tug, int hour) {
      Ship before = null;
      for (Ship ship : ships) {
        if (ship.hasJobWith(tug) && ship.lastHour() < hour
            && (before == null || ship.hour > before.hour)) {
          before = ship;
        }
      }
      return before;
    }

    /** The ship of a tug's job that begins first from an hour on; null: there is none. */
    private Ship jobBehind(int tug, int hour) {
      Ship behind = null;
      for (Ship ship : ships) {
        if (ship.hasJobWith(tug) && ship.hour >= hour
            && (behind == null || ship.hour < behind.hour)) {
          behind = ship;
        }
      }
      return behind;
    }

    private boolean canBeThere(int tug, Ship ship, int begin) {
      Ship before = jobBefore(tug, begin);
      int place = before == null ? tugs[tug].home : before.to;
      int free = before == null ? 0 : before.lastHour() + 1;
      if (free + berths.hoursBetween(place, ship.from, speed) > begin) {
        return false;
      }
      int end = begin + ship.length;
      Ship behind = jobBehind(tug, end);
      return behind == null
          || end + berths.hoursBetween(ship.to, behind.from, speed) <= behind.hour;
    }

    // ---- whether a job may be

    /** The first check by which a job fails; 0: it may be. */
    int failsBy(Ship ship, int begin, int set) {
      for (int check = 1; check <= CHECKS; check++) {
        if (!holds(check, ship, begin, set)) {
          return check;
        }
      }
      return 0;
    }

    private boolean holds(int check, Ship ship, int begin, int set) {
      switch (check) {
        case 1: return ship.isInTime(begin);
        case 2: return (lowHours(ship) & ship.hoursFrom(begin)) == 0;
        case 3: return pullOf(set) >= mostNeeded(ship, begin, begin + ship.length - 1);
        case 4: return canPullAstern(set);
        case 9: return (basinHours(ship) & ship.hoursFrom(begin)) == 0;
        case 10: return fire == 0 || isGuarded(ship, begin, set);
        case 12: return (storm & ship.hoursFrom(begin)) == 0;
        default: return holdsForEach(check, ship, begin, set);
      }
    }

    private boolean holdsForEach(int check, Ship ship, int begin, int set) {
      for (int t = 0; t < tugs.length; t++) {
        if (isIn(t, set) && !holdsFor(check, t, ship, begin)) {
          return false;
        }
      }
      return true;
    }

    private boolean holdsFor(int check, int t, Ship ship, int begin) {
      Tug tug = tugs[t];
      long hours = ship.hoursFrom(begin);
      switch (check) {
        case 5: return tug.isFree(hours);
        case 6: return tug.fuelLasts(tug.work | hours);
        case 7: return tug.crewRests(tug.work | hours, rest);
        case 8: return !tug.isBroken(begin + ship.length - 1);
        default: return canBeThere(t, ship, begin);
      }
    }

    // ---- the best job of a ship

    /** The hour at which a ship's job is best, its set in bestSet; NONE: there is none. */
    int seekBest(Ship ship) {
      long shut = storm | lowHours(ship) | basinHours(ship);
      for (int h = ship.ready; h + ship.length <= HOURS; h++) {
        if ((shut & ship.hoursFrom(h)) == 0) {
          bestSet = leastSet(ship, h, tugsFor(ship, h));
          if (bestSet != 0) {
            return h;
          }
        }
      }
      bestSet = 0;
      return NONE;
    }

    /** The tugs that could be in the set of a job, whatever others are. */
    private int tugsFor(Ship ship, int begin) {
      int able = 0;
      long hours = ship.hoursFrom(begin);
      for (int t = 0; t < tugCount && t < tugs.length; t++) {
        Tug tug = tugs[t];
        long workThen = tug.work | hours;
        if (tug.isFree(hours) && !tug.isBroken(begin + ship.length - 1)
            && canBeThere(t, ship, begin)
            && tug.crewRests(workThen, rest) && tug.fuelLasts(workThen)) {
          able |= 1 << t;
        }
      }
      return able;
    }

    /** Of the sets of these tugs with which a job may be that of fewest, least pull, least bits. */
    private int leastSet(Ship ship, int begin, int able) {
      int needed = mostNeeded(ship, begin, begin + ship.length - 1);
      if (pullOf(able) < needed || !canPullAstern(able)) {
        return 0;
      }
      int least = 0;
      for (int set = 1; set <= able; set++) {
        if ((set & ~able) == 0 && pullOf(set) >= needed && canPullAstern(set)
            && (least == 0 || isLess(set, least))
            && (fire == 0 || isGuarded(ship, begin, set))) {
          least = set;
        }
      }
      return least;
    }

    /** Whether a set is fewer, or of less pull; bits are compared by who asks. */
    private boolean isLess(int set, int other) {
      int tugsOf = Integer.bitCount(set);
      int tugsOfOther = Integer.bitCount(other);
      return tugsOf != tugsOfOther ? tugsOf < tugsOfOther : pullOf(set) < pullOf(other);
    }

    // ---- jobs put and taken

    void put(Ship ship, int begin, int set) {
      long hours = ship.hoursFrom(begin);
      for (int t = 0; t < tugs.length; t++) {
        if (isIn(t, set)) {
          tugs[t].work |= hours;
        }
      }
      ship.hour = begin;
      ship.set = set;
      laidEver++;
    }

    /** The hours of a ship's job from one on are no work of a set any more: how many. */
    private int release(Ship ship, int set, int from) {
      long hours = ship.jobHours() & ~hoursAhead(from);
      int lost = 0;
      for (int t = 0; t < tugs.length; t++) {
        if (isIn(t, set)) {
          lost += Long.bitCount(tugs[t].work & hours);
          tugs[t].work &= ~hours;
        }
      }
      return lost;
    }

    void lift(Ship ship) {
      release(ship, ship.set, 0);
      ship.dropJob();
    }

    void liftAll(int which) {
      for (int s = 0; s < ships.length; s++) {
        if ((which >>> s & 1) != 0) {
          lift(ships[s]);
        }
      }
    }

    /** A job is taken off from an hour on: the hours of work lost. */
    private int takeOff(Ship ship, int from) {
      int lost = release(ship, ship.set, from);
      ship.dropJob();
      takenOffEver++;
      return lost;
    }

    void clearPlan() {
      for (Tug tug : tugs) {
        tug.work = 0;
      }
      for (Ship ship : ships) {
        ship.dropJob();
      }
    }

    /** The first n of these ships, if without a job, have the best laid: how many have one. */
    int layEach(int[] numbers, int n) {
      int served = 0;
      for (int i = 0; i < n && i < numbers.length; i++) {
        if (within(numbers[i], 0, MOST_SHIPS - 1)) {
          Ship ship = ships[numbers[i]];
          int begin = ship.hasJob() ? NONE : seekBest(ship);
          if (begin != NONE) {
            put(ship, begin, bestSet);
          }
          served += ship.hasJob() ? 1 : 0;
        }
      }
      return served;
    }

    int waitedOf(int n) {
      int sum = 0;
      for (int s = 0; s < n && s < ships.length; s++) {
        sum += ships[s].waited();
      }
      return sum;
    }

    // ---- what goes wrong

    /** A tug breaks: how many jobs are taken off. */
    int breakDown(int tug, int from) {
      int off = 0;
      for (Ship ship : ships) {
        if (ship.hasJobWith(tug) && ship.lastHour() >= from) {
          if (goesOn(ship, tug, from)) {
            lostByBreaking += release(ship, 1 << tug, from);
            ship.set &= ~(1 << tug);
          } else {
            lostByBreaking += takeOff(ship, from);
            off++;
          }
        }
      }
      tugs[tug].brokenFrom = from;
      tugs[tug].bunkers &= hoursAhead(from);
      return off;
    }

    /** Whether a job that has begun goes on without a tug. */
    private boolean goesOn(Ship ship, int tug, int from) {
      int others = ship.set & ~(1 << tug);
      return ship.hour < from && others != 0
          && 2 * pullOf(others) >= mostNeeded(ship, from, ship.lastHour());
    }

    /** A storm from hour a to b: how many jobs are taken off. */
    int blow(int a, int b) {
      long hours = hoursAhead(b + 1) & ~hoursAhead(a);
      storm |= hours;
      int off = 0;
      for (Ship ship : ships) {
        if ((ship.jobHours() & hours) != 0) {
          lostByStorm += takeOff(ship, Math.max(a, ship.hour));
          off++;
        }
      }
      return off;
    }
  }

  /** Tries plans in a harbour of its own, so that nothing is laid by it. */
  private static final class Planner {
    final Harbour trial;
    final int[] byNumbers = new int[MOST_PLANNED];
    final int[] tried = new int[MOST_PLANNED];
    final int[] chosen = new int[MOST_PLANNED];
    int served = 0;
    int waited = 0;
    int lifted = 0;

    Planner(Berths berths) {
      trial = new Harbour(berths);
      for (int i = 0; i < byNumbers.length; i++) {
        byNumbers[i] = i;
      }
    }

    /** The best order of n ships into chosen, and waited. */
    void findOrder(Harbour now, int n) {
      trial.copyFrom(now);
      takeOver(byNumbers, tried);
      boolean more = true;
      // Orders come from the lowest on, so that of equals the first stays.
      for (int number = 0; more && number < MOST_ORDERS; number++) {
        trial.clearPlan();
        trial.layEach(tried, n);
        int sum = trial.waitedOf(n);
        if (number == 0 || sum < waited) {
          waited = sum;
          takeOver(tried, chosen);
        }
        more = nextOrder(n);
      }
    }

    private static void takeOver(int[] from, int[] to) {
      for (int i = 0; i < from.length && i < to.length; i++) {
        to[i] = from[i];
      }
    }

    /** The order behind the tried one; false: it was the highest. */
    private boolean nextOrder(int n) {
      int top = (n < tried.length ? n : tried.length) - 1;
      int low = top - 1;
      while (low >= 0 && tried[low] > tried[low + 1]) {
        low--;
      }
      if (low < 0) {
        return false;
      }
      int high = top;
      while (high > low + 1 && tried[high] < tried[low]) {
        high--;
      }
      exchange(low, high);
      for (int a = low + 1, b = top; a < b; a++, b--) {
        exchange(a, b);
      }
      return true;
    }

    private void exchange(int a, int b) {
      int held = tried[a];
      tried[a] = tried[b];
      tried[b] = held;
    }

    /** The mended plan of n ships into served, lifted and waited. */
    void findMended(Harbour now, int n) {
      served = -1;
      for (int which = 0; which < 1 << n; which++) {
        if (allHaveJobs(now, which)) {
          trial.copyFrom(now);
          trial.liftAll(which);
          int servedThen = trial.layEach(byNumbers, n);
          int sum = trial.waitedOf(n);
          if (isBetter(servedThen, which, sum)) {
            served = servedThen;
            lifted = which;
            waited = sum;
          }
        }
      }
    }

    private static boolean allHaveJobs(Harbour now, int which) {
      for (int s = 0; s < now.ships.length; s++) {
        if ((which >>> s & 1) != 0 && !now.ships[s].hasJob()) {
          return false;
        }
      }
      return true;
    }

    private boolean isBetter(int servedThen, int which, int sum) {
      if (servedThen != served) {
        return servedThen > served;
      }
      int off = Integer.bitCount(which);
      int offBest = Integer.bitCount(lifted);
      return off != offBest ? off < offBest : sum < waited;
    }
  }

  private static final class Prices {
    final int[] tests = new int[MOST_RULES];
    final int[] values = new int[MOST_RULES];
    final int[] kinds = new int[MOST_RULES];
    final int[] amounts = new int[MOST_RULES];
    int count = 0;

    /** False: there are too many. */
    boolean tell(int test, int v, int kind, int amount) {
      if (!within(count, 0, MOST_RULES - 1)) {
        return false;
      }
      tests[count] = test;
      values[count] = v;
      kinds[count] = kind;
      amounts[count] = amount;
      count++;
      return true;
    }

    long priceOf(Harbour harbour, Ship ship) {
      long sum = 0;
      for (int r = 0; r < count && r < MOST_RULES; r++) {
        if (isSo(tests[r], values[r], harbour, ship)) {
          sum += kinds[r] == 0 ? amounts[r] : sum * amounts[r] / 100;
        }
      }
      return sum;
    }

    private static boolean isSo(int test, int v, Harbour harbour, Ship ship) {
      switch (test) {
        case 0: return true;
        case 1: return ship.size >= v;
        case 2: return isHour(ship.hour) && harbour.wind[ship.hour] >= v;
        case 3: return ship.hour % 24 < 6 || ship.hour % 24 >= 20;
        case 4: return Integer.bitCount(ship.set) >= v;
        case 5: return harbour.pullOf(ship.set) >= v;
        default: return ship.hour - ship.ready >= v;
      }
    }
  }
}
