/** For each promise what it answers: ordinary inputs, the edges the document names, wrong inputs. */
public final class PromiseTest {
  private static final int BAD = -1, NO = -2, FULL = -3, NONE = -4;

  private static int wrong = 0;
  private static int asked = 0;
  private static int promise = 0;

  private static void due(String what, long got, long want) {
    asked++;
    if (got != want) {
      wrong++;
      System.out.println("promise " + promise + ": " + what + " answered " + got + ", due is " + want);
    }
  }

  /** A strong tug that can pull astern and never tires, at berth 0. */
  private static HarbourTugs withTug() {
    HarbourTugs x = new HarbourTugs();
    x.tug(0, 60, 1, 48, 48, 12, 0);
    return x;
  }

  /** Two such tugs of both firms. */
  private static HarbourTugs withTwo() {
    HarbourTugs x = withTug();
    x.tug(1, 30, 1, 48, 48, 12, 0);
    return x;
  }

  private static int shipAtHome(HarbourTugs x, int size, int ready, int length) {
    return x.ship(size, 0, ready, length, 1, 0, 0);
  }

  public static void main(String[] args) {
    firstThings();
    tugsAndShips();
    fuelAndBunkers();
    jobs();
    plans();
    troubles();
    money();
    books();
    System.out.println(wrong == 0 ? "all " + asked + " answers are as due"
        : wrong + " of " + asked + " answers are not as due");
    if (wrong != 0) {
      System.exit(1);
    }
  }

  private static void firstThings() {
    newObject();
    tide();
    wind();
    rule();
    berth();
    way();
  }

  private static void tugsAndShips() {
    tug();
    ship();
    needs();
  }

  private static void fuelAndBunkers() {
    bunker();
    fuel();
  }

  private static void jobs() {
    mayInOrder();
    mayTideAndPull();
    mayFuelAndCrew();
    mayBrokenAndBasins();
    mayFire();
    mayWays();
    mayStorm();
    lay();
    off();
    best();
    job();
  }

  private static void plans() {
    order();
    layOrder();
    mended();
    layMended();
  }

  private static void troubles() {
    breaks();
    goesOn();
    mend();
    storm();
    calm();
  }

  private static void money() {
    priceRule();
    priceTests();
    priceCut();
    pool();
  }

  private static void books() {
    work();
    about();
    keep();
    back();
    count();
  }

  // ---- promises 1 to 6

  private static void newObject() {
    promise = 1;
    HarbourTugs x = new HarbourTugs();
    for (int what = 0; what <= 9; what++) {
      due("count " + what, x.count(what), 0);
    }
    due("no tug", x.work(0, 0), BAD);
    due("no ship", x.needs(0, 0), BAD);
    due("rest", x.rule(0, 2), 2);
    due("fire", x.rule(1, 0), 0);
    due("speed", x.rule(2, 10), 10);
    HarbourTugs y = withTug();
    due("one object is not another", x.count(0) * 10 + y.count(0), 1);
  }

  private static void tide() {
    promise = 2;
    HarbourTugs x = new HarbourTugs();
    for (int hour = 0; hour < 12; hour++) {
      due("at first", x.tide(hour, hour % 10), 5);
    }
    for (int hour = 0; hour < 12; hour++) {
      due("what it was", x.tide(hour, 9), hour % 10);
    }
    due("hour -1", x.tide(-1, 0), BAD);
    due("hour 12", x.tide(12, 0), BAD);
    due("v -1", x.tide(0, -1), BAD);
    due("v 10", x.tide(0, 10), BAD);
    due("nothing changed", x.tide(0, 0), 9);
  }

  private static void wind() {
    promise = 3;
    HarbourTugs x = new HarbourTugs();
    due("at first", x.wind(0, 9), 0);
    due("at first", x.wind(47, 1), 0);
    due("was", x.wind(0, 0), 9);
    due("was", x.wind(47, 0), 1);
    due("hour 12 is another than 0", x.wind(12, 4), 0);
    due("hour -1", x.wind(-1, 0), BAD);
    due("hour 48", x.wind(48, 0), BAD);
    due("v -1", x.wind(12, -1), BAD);
    due("v 10", x.wind(12, 10), BAD);
    due("nothing changed", x.wind(12, 0), 4);
  }

  private static void rule() {
    promise = 4;
    HarbourTugs x = new HarbourTugs();
    due("rest 6", x.rule(0, 6), 2);
    due("rest 0", x.rule(0, 0), 6);
    due("rest 7", x.rule(0, 7), BAD);
    due("rest -1", x.rule(0, -1), BAD);
    due("rest was", x.rule(0, 2), 0);
    due("fire 1", x.rule(1, 1), 0);
    due("fire 2", x.rule(1, 2), BAD);
    due("fire -1", x.rule(1, -1), BAD);
    due("fire was", x.rule(1, 0), 1);
    due("speed 30", x.rule(2, 30), 10);
    due("speed 31", x.rule(2, 31), BAD);
    due("speed 0", x.rule(2, 0), BAD);
    due("speed 1", x.rule(2, 1), 30);
    due("what 3", x.rule(3, 1), BAD);
    due("what -1", x.rule(-1, 1), BAD);
  }

  private static void berth() {
    promise = 5;
    HarbourTugs x = withTug();
    for (int b = 0; b < 6; b++) {
      due("place at first", x.berth(b, 0, 60), 10 * b);
      due("basin at first", x.berth(b, 1, 1), 0);
      due("place was", x.berth(b, 0, 0), 60);
      due("basin was", x.berth(b, 1, 0), 1);
    }
    due("berth -1", x.berth(-1, 0, 0), BAD);
    due("berth 6", x.berth(6, 0, 0), BAD);
    due("what -1", x.berth(0, -1, 0), BAD);
    due("what 2", x.berth(0, 2, 0), BAD);
    due("place -1", x.berth(0, 0, -1), BAD);
    due("place 61", x.berth(0, 0, 61), BAD);
    due("basin -1", x.berth(0, 1, -1), BAD);
    due("basin 2", x.berth(0, 1, 2), BAD);
    x.ship(1, 0, 0, 1, 1, 1, 2);
    due("laid", x.lay(0, 0, 1), 0);
    due("from", x.berth(1, 0, 5), NO);
    due("to", x.berth(2, 1, 1), NO);
    due("BAD goes before NO", x.berth(1, 0, 61), BAD);
    due("another", x.berth(3, 0, 5), 0);
    due("off", x.off(0), 0);
    due("again", x.berth(1, 0, 5), 0);
    due("again", x.berth(2, 1, 1), 0);
  }

  private static void way() {
    promise = 6;
    HarbourTugs x = new HarbourTugs();
    due("0 to 5", x.way(0, 5), 5);
    due("5 to 0", x.way(5, 0), 5);
    due("3 to 3", x.way(3, 3), 0);
    x.rule(2, 30);
    due("50 by 30", x.way(0, 5), 2);
    due("30 by 30", x.way(0, 3), 1);
    x.rule(2, 1);
    due("50 by 1", x.way(0, 5), 50);
    x.rule(2, 10);
    x.berth(1, 0, 11);
    due("11 by 10", x.way(0, 1), 2);
    due("from -1", x.way(-1, 0), BAD);
    due("from 6", x.way(6, 0), BAD);
    due("to -1", x.way(0, -1), BAD);
    due("to 6", x.way(0, 6), BAD);
  }

  // ---- promises 7 to 11

  private static void tug() {
    promise = 7;
    HarbourTugs x = new HarbourTugs();
    due("firm 2", x.tug(2, 1, 0, 0, 1, 1, 0), BAD);
    due("firm -1", x.tug(-1, 1, 0, 0, 1, 1, 0), BAD);
    due("pull 0", x.tug(0, 0, 0, 0, 1, 1, 0), BAD);
    due("pull 61", x.tug(0, 61, 0, 0, 1, 1, 0), BAD);
    due("kind 2", x.tug(0, 1, 2, 0, 1, 1, 0), BAD);
    due("kind -1", x.tug(0, 1, -1, 0, 1, 1, 0), BAD);
    due("fuel -1", x.tug(0, 1, 0, -1, 1, 1, 0), BAD);
    due("fuel above tank", x.tug(0, 1, 0, 2, 1, 1, 0), BAD);
    due("tank 0", x.tug(0, 1, 0, 0, 0, 1, 0), BAD);
    due("tank 49", x.tug(0, 1, 0, 0, 49, 1, 0), BAD);
    due("crew 0", x.tug(0, 1, 0, 0, 1, 0, 0), BAD);
    due("crew 13", x.tug(0, 1, 0, 0, 1, 13, 0), BAD);
    due("home -1", x.tug(0, 1, 0, 0, 1, 1, -1), BAD);
    due("home 6", x.tug(0, 1, 0, 0, 1, 1, 6), BAD);
    due("none came", x.count(0), 0);
    due("least", x.tug(0, 1, 0, 0, 1, 1, 0), 0);
    due("most", x.tug(1, 60, 1, 48, 48, 12, 5), 1);
    for (int t = 2; t < 6; t++) {
      due("number", x.tug(0, 10, 0, 3, 4, 5, 2), t);
    }
    due("full", x.tug(0, 10, 0, 3, 4, 5, 2), FULL);
    due("BAD goes before FULL", x.tug(0, 10, 0, 5, 4, 5, 2), BAD);
    due("six", x.count(0), 6);
  }

  private static void ship() {
    promise = 8;
    HarbourTugs x = new HarbourTugs();
    due("size 0", x.ship(0, 0, 0, 1, 1, 0, 0), BAD);
    due("size 51", x.ship(51, 0, 0, 1, 1, 0, 0), BAD);
    due("draft -1", x.ship(1, -1, 0, 1, 1, 0, 0), BAD);
    due("draft 10", x.ship(1, 10, 0, 1, 1, 0, 0), BAD);
    due("ready -1", x.ship(1, 0, -1, 1, 1, 0, 0), BAD);
    due("ready 48", x.ship(1, 0, 48, 1, 1, 0, 0), BAD);
    due("length 0", x.ship(1, 0, 0, 0, 1, 0, 0), BAD);
    due("length 5", x.ship(1, 0, 0, 5, 1, 0, 0), BAD);
    due("weight 0", x.ship(1, 0, 0, 1, 0, 0, 0), BAD);
    due("weight 21", x.ship(1, 0, 0, 1, 21, 0, 0), BAD);
    due("from -1", x.ship(1, 0, 0, 1, 1, -1, 0), BAD);
    due("from 6", x.ship(1, 0, 0, 1, 1, 6, 0), BAD);
    due("to -1", x.ship(1, 0, 0, 1, 1, 0, -1), BAD);
    due("to 6", x.ship(1, 0, 0, 1, 1, 0, 6), BAD);
    due("none came", x.count(1), 0);
    due("least", x.ship(1, 0, 0, 1, 1, 0, 0), 0);
    due("most", x.ship(50, 9, 47, 4, 20, 5, 5), 1);
    for (int s = 2; s < 8; s++) {
      due("number", x.ship(10, 5, 3, 2, 2, 1, 1), s);
    }
    due("full", x.ship(10, 5, 3, 2, 2, 1, 1), FULL);
    due("BAD goes before FULL", x.ship(51, 5, 3, 2, 2, 1, 1), BAD);
  }

  private static void needs() {
    promise = 9;
    HarbourTugs x = new HarbourTugs();
    x.ship(7, 0, 0, 1, 1, 0, 0);
    due("no wind", x.needs(0, 3), 7);
    x.wind(3, 4);
    due("7 and 28 by 5", x.needs(0, 3), 12);
    x.wind(3, 9);
    due("7 and 63 by 5", x.needs(0, 3), 19);
    due("another hour", x.needs(0, 4), 7);
    due("last hour", x.needs(0, 47), 7);
    x.wind(0, 5);
    x.wind(47, 5);
    due("first hour with wind", x.needs(0, 0), 14);
    due("last hour with wind", x.needs(0, 47), 14);
    due("ship 1", x.needs(1, 3), BAD);
    due("ship -1", x.needs(-1, 3), BAD);
    due("hour -1", x.needs(0, -1), BAD);
    due("hour 48", x.needs(0, 48), BAD);
  }

  private static void bunker() {
    promise = 10;
    HarbourTugs x = new HarbourTugs();
    x.tug(0, 20, 1, 5, 20, 12, 0);
    due("5 and 12", x.bunker(0, 10), 17);
    due("twice", x.bunker(0, 10), NO);
    due("not above the tank", x.bunker(0, 20), 20);
    shipAtHome(x, 10, 30, 2);
    x.lay(0, 30, 1);
    due("work", x.bunker(0, 30), NO);
    due("work", x.bunker(0, 31), NO);
    due("behind work", x.bunker(0, 32), 20);
    x.storm(40, 41);
    due("storm", x.bunker(0, 40), NO);
    due("storm", x.bunker(0, 41), NO);
    due("behind a storm", x.bunker(0, 42), 20);
    x.breaks(0, 44);
    due("broken", x.bunker(0, 44), NO);
    due("broken later", x.bunker(0, 47), NO);
    due("ahead of the break", x.bunker(0, 43), 20);
    due("tug 1", x.bunker(1, 0), BAD);
    due("tug -1", x.bunker(-1, 0), BAD);
    due("hour -1", x.bunker(0, -1), BAD);
    due("hour 48", x.bunker(0, 48), BAD);
    due("BUNKERS", x.work(0, 1), 1L << 10 | 1L << 20 | 1L << 32 | 1L << 42 | 1L << 43);
  }

  private static void fuel() {
    promise = 11;
    HarbourTugs x = new HarbourTugs();
    x.tug(0, 20, 1, 5, 14, 12, 0);
    shipAtHome(x, 10, 2, 3);
    x.lay(0, 2, 1);
    x.bunker(0, 8);
    due("at first", x.fuel(0, -1), 5);
    due("ahead of work", x.fuel(0, 1), 5);
    due("behind an hour of work", x.fuel(0, 2), 4);
    due("behind all work", x.fuel(0, 4), 2);
    due("ahead of bunkers", x.fuel(0, 7), 2);
    due("behind bunkers", x.fuel(0, 8), 14);
    due("last", x.fuel(0, 47), 14);
    due("hour -2", x.fuel(0, -2), BAD);
    due("hour 48", x.fuel(0, 48), BAD);
    due("tug 1", x.fuel(1, 0), BAD);
    due("tug -1", x.fuel(-1, 0), BAD);
  }

  // ---- promise 12: a job fails by the first of the checks

  private static void mayInOrder() {
    promise = 12;
    HarbourTugs x = withTug();
    due("no ship", x.may(0, 0, 1), BAD);
    int s = shipAtHome(x, 10, 5, 4);
    due("no set", x.may(s, 5, 0), BAD);
    due("no such tug", x.may(s, 5, 2), BAD);
    due("one of them is none", x.may(s, 5, 3), BAD);
    due("set below 0", x.may(s, 5, -1), BAD);
    due("hour -1", x.may(s, -1, 1), BAD);
    due("hour 48", x.may(s, 48, 1), BAD);
    due("ahead of ready", x.may(s, 4, 1), 1);
    due("at ready", x.may(s, 5, 1), 0);
    due("last that ends in time", x.may(s, 44, 1), 0);
    due("beyond 47", x.may(s, 45, 1), 1);
    due("hour 47", x.may(s, 47, 1), 1);
    due("nothing is laid by it", x.count(2), 0);
    x.lay(s, 5, 1);
    due("laid", x.may(s, 5, 1), NO);
    due("BAD goes before NO", x.may(s, 5, 0), BAD);
  }

  private static void mayTideAndPull() {
    HarbourTugs x = new HarbourTugs();
    x.tug(0, 20, 0, 48, 48, 12, 0);
    x.tug(0, 10, 1, 48, 48, 12, 0);
    x.ship(20, 5, 0, 2, 1, 0, 0);
    x.tide(3, 4);
    due("tide at its draft", x.may(0, 1, 3), 0);
    due("tide in its last hour", x.may(0, 2, 3), 2);
    due("tide in its first hour", x.may(0, 3, 3), 2);
    due("tide a day behind", x.may(0, 27, 3), 2);
    due("pull too small", x.may(0, 0, 2), 3);
    due("just enough pull, none astern", x.may(0, 0, 1), 4);
    x.wind(6, 2);
    due("28 in its last hour", x.may(0, 5, 3), 0);
    x.wind(6, 3);
    due("32 in its last hour", x.may(0, 5, 3), 3);
    due("32 in its first hour", x.may(0, 6, 3), 3);
    due("behind the wind", x.may(0, 7, 3), 0);
  }

  private static void mayFuelAndCrew() {
    HarbourTugs x = new HarbourTugs();
    x.tug(0, 60, 1, 3, 4, 2, 0);
    shipAtHome(x, 1, 0, 2);
    shipAtHome(x, 1, 0, 2);
    shipAtHome(x, 1, 0, 1);
    x.lay(0, 10, 1);
    due("work then", x.may(2, 10, 1), 5);
    due("work in a last hour", x.may(1, 9, 1), 5);
    due("fuel for 3", x.may(1, 20, 1), 6);
    due("ahead of it, too", x.may(1, 2, 1), 6);
    x.bunker(0, 15);
    due("bunkers then", x.may(2, 15, 1), 5);
    due("with bunkers between", x.may(1, 20, 1), 0);
    due("ahead of both 2 and 2 of 3", x.may(1, 2, 1), 6);
    due("a crew of 2 rests 2: 3 of 4 hours", x.may(2, 12, 1), 7);
    due("3 of 4 hours, again", x.may(2, 9, 1), 7);
    due("2 of 4 hours", x.may(2, 14, 1), 0);
    due("2 of 4 hours ahead", x.may(2, 7, 1), 0);
    due("2 hours behind", x.may(2, 13, 1), 7);
    x.rule(0, 0);
    due("no rest", x.may(2, 12, 1), 0);
    shipAtHome(x, 1, 0, 3);
    x.rule(0, 1);
    due("longer than the crew", x.may(3, 20, 1), 7);
    crewAtTheEnds();
  }

  /** A crew of 2 that rests 2: windows of 4 hours at the first and the last hour. */
  private static void crewAtTheEnds() {
    HarbourTugs x = new HarbourTugs();
    x.tug(0, 60, 1, 48, 48, 2, 0);
    shipAtHome(x, 1, 0, 2);
    shipAtHome(x, 1, 0, 1);
    x.lay(0, 0, 1);
    due("hours 0, 1, 3", x.may(1, 3, 1), 7);
    due("hours 0, 1, 4: 1 to 4 has two", x.may(1, 4, 1), 0);
    x.off(0);
    x.lay(0, 46, 1);
    due("hours 44, 46, 47", x.may(1, 44, 1), 7);
    due("hours 43, 46, 47", x.may(1, 43, 1), 0);
    x.rule(0, 3);
    due("a rest of 3: 43 to 47", x.may(1, 43, 1), 7);
    x.rule(0, 0);
    x.off(0);
    x.tug(0, 60, 1, 1, 1, 12, 0);
    due("fuel for one of hours 0, 1", x.may(0, 0, 2), 6);
    due("fuel for one of hours 46, 47", x.may(0, 46, 2), 6);
    due("fuel that comes to 0", x.may(1, 0, 2), 0);
  }

  private static void mayBrokenAndBasins() {
    HarbourTugs x = withTwo();
    x.ship(1, 0, 0, 2, 1, 0, 1);
    x.ship(1, 0, 0, 2, 1, 2, 3);
    x.breaks(0, 20);
    due("ends ahead of the break", x.may(0, 18, 1), 0);
    due("last hour is broken", x.may(0, 19, 1), 8);
    due("behind it", x.may(0, 40, 3), 8);
    x.mend(0);
    x.lay(0, 5, 1);
    due("basin 0 for all", x.may(1, 5, 2), 9);
    due("last hour in common", x.may(1, 4, 2), 9);
    due("first hour in common", x.may(1, 6, 2), 9);
    due("behind", x.may(1, 7, 2), 0);
    due("ahead", x.may(1, 3, 2), 0);
    x.berth(2, 1, 1);
    due("TO is in the other's basin", x.may(1, 5, 2), 9);
    x.berth(3, 1, 1);
    due("no basin in common", x.may(1, 5, 2), 0);
    x.ship(1, 0, 0, 2, 1, 1, 0);
    due("broken behind the last hour", x.breaks(1, 12), 0);
    due("best ends ahead of the break", x.best(1, 0), 2);
    x.berth(2, 1, 0);
    x.lay(1, 10, 2);
    due("two are laid: in the first", x.may(2, 6, 2), 9);
    due("two are laid: in the second", x.may(2, 11, 1), 9);
  }

  private static void mayFire() {
    HarbourTugs x = withTwo();
    x.ship(40, 0, 0, 2, 1, 0, 0);
    x.ship(40, 0, 0, 2, 1, 4, 4);
    x.berth(4, 1, 1);
    x.berth(4, 0, 0);
    x.rule(1, 1);
    due("one is kept", x.may(0, 5, 1), 0);
    due("none is kept", x.may(0, 5, 3), 10);
    x.bunker(1, 5);
    due("bunkers are no work", x.may(0, 5, 1), 0);
    x.breaks(1, 6);
    due("broken in its last hour", x.may(0, 5, 1), 10);
    due("ahead of it", x.may(0, 4, 1), 0);
    x.mend(1);
    x.tug(1, 60, 1, 48, 48, 12, 0);
    x.lay(1, 20, 4);
    due("one works, one is kept", x.may(0, 20, 1), 0);
    due("one works, none is kept", x.may(0, 20, 3), 10);
    due("one works in the first hour", x.may(0, 21, 3), 10);
    due("behind it", x.may(0, 22, 3), 0);
    x.rule(1, 0);
    due("no fire watch", x.may(0, 20, 3), 0);
  }

  private static void mayWays() {
    HarbourTugs x = new HarbourTugs();
    x.tug(0, 60, 1, 48, 48, 12, 2);
    x.ship(1, 0, 0, 2, 1, 0, 5);
    x.ship(1, 0, 0, 1, 1, 4, 1);
    due("from home: 2 hours", x.may(0, 1, 1), 11);
    due("just there", x.may(0, 2, 1), 0);
    x.lay(0, 10, 1);
    due("from berth 5 to 4", x.may(1, 12, 1), 11);
    due("just there", x.may(1, 13, 1), 0);
    due("ahead: from 1 to 0", x.may(1, 9, 1), 11);
    due("ahead: just there", x.may(1, 8, 1), 0);
    due("ahead: from home to 4", x.may(1, 1, 1), 11);
    due("ahead: there", x.may(1, 2, 1), 0);
    x.ship(1, 0, 0, 1, 1, 1, 1);
    x.lay(1, 20, 1);
    due("between two: from 5", x.may(2, 15, 1), 11);
    due("between two: there", x.may(2, 16, 1), 0);
    due("between two: no longer to 4", x.may(2, 17, 1), 11);
    due("behind both", x.may(2, 21, 1), 0);
    due("ahead of both", x.may(2, 8, 1), 0);
    due("ahead of both, too late", x.may(2, 9, 1), 11);
  }

  private static void mayStorm() {
    HarbourTugs x = withTug();
    shipAtHome(x, 1, 0, 2);
    x.storm(10, 11);
    due("ahead", x.may(0, 8, 1), 0);
    due("last hour", x.may(0, 9, 1), 12);
    due("first hour", x.may(0, 11, 1), 12);
    due("behind", x.may(0, 12, 1), 0);
  }

  // ---- promises 13 to 16

  private static void lay() {
    promise = 13;
    HarbourTugs x = withTwo();
    shipAtHome(x, 10, 3, 2);
    due("ship 1", x.lay(1, 3, 1), BAD);
    due("ship -1", x.lay(-1, 3, 1), BAD);
    due("hour 48", x.lay(0, 48, 1), BAD);
    due("hour -1", x.lay(0, -1, 1), BAD);
    due("no set", x.lay(0, 3, 0), BAD);
    due("tug 2", x.lay(0, 3, 4), BAD);
    due("may not", x.lay(0, 2, 1), NO);
    due("nothing laid", x.count(4), 0);
    due("laid", x.lay(0, 3, 3), 0);
    due("again", x.lay(0, 10, 3), NO);
    due("BAD goes before NO", x.lay(0, 10, 4), BAD);
    due("work of one", x.work(0, 0), 3L << 3);
    due("work of the other", x.work(1, 0), 3L << 3);
    due("jobs", x.count(2), 1);
    due("ever", x.count(4), 1);
  }

  private static void off() {
    promise = 14;
    HarbourTugs x = withTwo();
    shipAtHome(x, 10, 3, 2);
    shipAtHome(x, 10, 3, 2);
    due("none", x.off(0), NO);
    due("ship 2", x.off(2), BAD);
    due("ship -1", x.off(-1), BAD);
    x.lay(0, 4, 1);
    x.lay(1, 8, 3);
    due("off", x.off(0), 4);
    due("no work", x.work(0, 0), 3L << 8);
    due("twice", x.off(0), NO);
    due("of two tugs", x.off(1), 8);
    due("no work", x.work(0, 0) + x.work(1, 0), 0);
    due("laid ever stays", x.count(4), 2);
    due("not taken off", x.count(5), 0);
    due("may be laid again", x.lay(0, 4, 1), 0);
  }

  private static void best() {
    promise = 15;
    HarbourTugs x = new HarbourTugs();
    x.ship(10, 0, 3, 2, 1, 0, 0);
    due("no tugs", x.best(0, 0), NONE);
    due("no tugs", x.best(0, 1), NONE);
    x.tug(0, 30, 0, 48, 48, 12, 0);
    due("none astern", x.best(0, 0), NONE);
    x.tug(0, 5, 1, 48, 48, 12, 0);
    due("two", x.best(0, 1), 3);
    x.tug(0, 12, 1, 48, 48, 12, 5);
    due("hour goes before number", x.best(0, 0), 3);
    due("both at the hour", x.best(0, 1), 3);
    x.tug(0, 40, 1, 48, 48, 12, 0);
    due("one goes before two", x.best(0, 1), 8);
    x.tug(0, 35, 1, 48, 48, 12, 0);
    due("least pull", x.best(0, 1), 16);
    x.tug(0, 35, 1, 48, 48, 12, 0);
    due("least bits", x.best(0, 1), 16);
    x.storm(0, 10);
    due("behind the storm", x.best(0, 0), 11);
    due("the far one is there by then", x.best(0, 1), 4);
    due("what 2", x.best(0, 2), BAD);
    due("what -1", x.best(0, -1), BAD);
    due("ship 1", x.best(1, 0), BAD);
    due("ship -1", x.best(-1, 0), BAD);
    due("nothing is laid by it", x.count(2), 0);
    x.wind(13, 9);
    due("wind behind its hours", x.best(0, 1), 4);
    x.wind(12, 1);
    due("12 of 12 is enough", x.best(0, 1), 4);
    x.wind(12, 0);
    x.breaks(2, 12);
    due("broken in its last hour", x.best(0, 1), 16);
    x.mend(2);
    x.breaks(2, 13);
    due("broken behind it", x.best(0, 1), 4);
    x.mend(2);
    x.lay(0, 11, 4);
    due("laid", x.best(0, 0), NO);
    due("BAD goes before NO", x.best(0, 2), BAD);
    x.ship(10, 0, 47, 2, 1, 0, 0);
    due("no hour is left", x.best(1, 0), NONE);
    x.ship(10, 6, 0, 2, 1, 0, 0);
    due("no tide", x.best(2, 0), NONE);
    x.tide(11, 9);
    due("one hour of tide", x.best(2, 0), NONE);
    x.tide(0, 9);
    due("two hours of tide, the second time", x.best(2, 0), 23);
  }

  private static void job() {
    promise = 16;
    HarbourTugs x = withTwo();
    shipAtHome(x, 10, 3, 2);
    due("none", x.job(0, 0), NONE);
    due("none", x.job(0, 1), NONE);
    x.lay(0, 7, 3);
    due("hour", x.job(0, 0), 7);
    due("set", x.job(0, 1), 3);
    due("what 2", x.job(0, 2), BAD);
    due("what -1", x.job(0, -1), BAD);
    due("ship 1", x.job(1, 0), BAD);
    due("ship -1", x.job(-1, 0), BAD);
  }

  // ---- promises 17 to 20

  /** One tug and ships that stand in each other's way; the later weigh more. */
  private static HarbourTugs withQueue() {
    HarbourTugs x = withTug();
    x.ship(10, 0, 0, 4, 1, 0, 0);
    x.ship(10, 0, 0, 2, 5, 0, 0);
    x.ship(10, 0, 0, 1, 20, 0, 0);
    x.ship(10, 9, 10, 1, 2, 0, 0);
    return x;
  }

  private static void order() {
    promise = 17;
    HarbourTugs x = withQueue();
    due("one", x.order(1, -1), 0);
    due("two: 1 waits 0, 0 waits 2", x.order(2, -1), 2);
    due("first", x.order(2, 0), 1);
    due("second", x.order(2, 1), 0);
    due("none", x.order(2, 2), NONE);
    due("three: 5 times 1, 1 times 3", x.order(3, -1), 8);
    due("first", x.order(3, 0), 2);
    due("second", x.order(3, 1), 1);
    due("third", x.order(3, 2), 0);
    due("four: 2 times 50 for one without a job", x.order(4, -1), 108);
    due("of several the lower", x.order(4, 0), 2);
    due("of several the lower", x.order(4, 2), 0);
    due("the one without a job last", x.order(4, 3), 3);
    due("n 0", x.order(0, -1), BAD);
    due("n -1", x.order(-1, -1), BAD);
    due("n 5", x.order(5, -1), BAD);
    due("nothing is laid", x.count(2) + x.count(4) + x.work(0, 0), 0);
    x.lay(0, 0, 1);
    due("from nothing laid", x.order(3, -1), 8);
    due("what was laid stays", x.job(0, 0), 0);
    x.bunker(0, 4);
    x.off(0);
    due("bunkers stay", x.order(3, -1), 10);
    x.ship(1, 0, 0, 1, 1, 0, 0);
    due("n 5 of 5 ships", x.order(5, -1), BAD);
    HarbourTugs y = withTug();
    y.ship(10, 0, 0, 1, 1, 0, 0);
    due("n above ships", y.order(2, -1), BAD);
    y.ship(10, 0, 0, 1, 1, 0, 0);
    due("alike: the lower first", y.order(2, 0), 0);
    due("alike: then the next", y.order(2, 1), 1);
  }

  private static void layOrder() {
    promise = 18;
    HarbourTugs x = withQueue();
    x.ship(10, 0, 0, 4, 1, 0, 0);
    x.lay(4, 0, 1);
    x.lay(0, 10, 1);
    due("n 0", x.layOrder(0), BAD);
    due("n 5", x.layOrder(5), BAD);
    due("three of four", x.layOrder(4), 3);
    due("in place of all", x.job(4, 0), NONE);
    due("the first", x.job(2, 0), 0);
    due("the second", x.job(1, 0), 1);
    due("the third", x.job(0, 0), 3);
    due("left out", x.job(3, 0), NONE);
    due("work", x.work(0, 0), 127);
    due("laid ever", x.count(4), 5);
    due("not taken off", x.count(5), 0);
    HarbourTugs y = withTug();
    due("no ships", y.layOrder(1), BAD);
    shipAtHome(y, 10, 0, 4);
    y.lay(0, 0, 1);
    y.storm(2, 2);
    due("hours ahead of the storm stay", y.work(0, 0), 3);
    due("laid behind the storm", y.layOrder(1), 1);
    due("work of old is gone", y.work(0, 0), 15L << 3);
  }

  private static void mended() {
    promise = 19;
    HarbourTugs x = withQueue();
    x.lay(0, 0, 1);
    due("they have a job: 0, 1, 2", x.mended(4, 0), 3);
    due("none taken off", x.mended(4, 1), 0);
    due("1 waits 4, 2 waits 6, 3 has none", x.mended(4, 2), 20 + 120 + 100);
    due("bits", x.mended(4, 3), 0);
    due("not laid", x.count(2), 1);
    due("of 1 ship", x.mended(1, 2), 0);
    due("what 4", x.mended(4, 4), BAD);
    due("what -1", x.mended(4, -1), BAD);
    due("n 0", x.mended(0, 0), BAD);
    due("n 5", x.mended(5, 0), BAD);
    mendedLifts();
    mendedOfEquals();
  }

  /** A ship that needs the hour that another has. */
  private static void mendedLifts() {
    HarbourTugs y = withTug();
    y.tide(1, 9);
    y.ship(10, 0, 0, 2, 3, 0, 0);
    y.ship(10, 9, 0, 1, 20, 0, 0);
    y.storm(4, 47);
    y.lay(0, 1, 1);
    due("ship 0 would take hour 1 again, at 0", y.mended(2, 0), 1);
    due("so none is taken off", y.mended(2, 3), 0);
    HarbourTugs z = withTug();
    z.tide(2, 9);
    z.ship(10, 0, 0, 2, 3, 0, 0);
    z.ship(10, 9, 0, 1, 20, 0, 0);
    z.storm(4, 47);
    z.lay(0, 2, 1);
    due("both", z.mended(2, 0), 2);
    due("one off", z.mended(2, 1), 1);
    due("20 times 2", z.mended(2, 2), 40);
    due("ship 0", z.mended(2, 3), 1);
    due("not taken off", z.job(0, 0), 2);
  }

  /** Ship 2 needs hour 2 or 4, which 0 and 1 have; either could go at hour 0. */
  private static void mendedOfEquals() {
    HarbourTugs x = withTug();
    x.tide(2, 9);
    x.tide(4, 9);
    x.ship(10, 0, 0, 1, 3, 0, 0);
    x.ship(10, 0, 0, 1, 3, 0, 0);
    x.ship(10, 9, 0, 1, 1, 0, 0);
    x.storm(5, 47);
    x.lay(0, 2, 1);
    x.lay(1, 4, 1);
    due("all", x.mended(3, 0), 3);
    due("one off", x.mended(3, 1), 1);
    due("1 goes at 0: 2 and 2 times 3 are less", x.mended(3, 2), 10);
    due("ship 1", x.mended(3, 3), 2);
    x.off(1);
    x.lay(1, 3, 1);
    x.tide(4, 5);
    due("only hour 2 will do", x.mended(3, 3), 1);
    x.off(0);
    due("none off, 0 at 0, 2 at 2", x.mended(3, 3), 0);
    due("3 times 3, 2", x.mended(3, 2), 11);
  }

  private static void layMended() {
    promise = 20;
    HarbourTugs z = withTug();
    z.tide(2, 9);
    z.ship(10, 0, 0, 2, 3, 0, 0);
    z.ship(10, 9, 0, 1, 20, 0, 0);
    z.ship(10, 0, 0, 1, 1, 0, 0);
    z.storm(5, 47);
    z.lay(0, 2, 1);
    z.lay(2, 4, 1);
    due("n 0", z.layMended(0), BAD);
    due("n 4", z.layMended(4), BAD);
    due("both", z.layMended(2), 2);
    due("ship 0", z.job(0, 0), 0);
    due("ship 1", z.job(1, 0), 2);
    due("ship 2 stays", z.job(2, 0), 4);
    due("work", z.work(0, 0), 0b10111);
    due("laid ever", z.count(4), 4);
    due("not taken off", z.count(5), 0);
    due("again", z.layMended(3), 3);
    due("nothing more is laid", z.count(4), 4);
  }

  // ---- promises 21 to 24

  private static void breaks() {
    promise = 21;
    HarbourTugs x = withTwo();
    shipAtHome(x, 10, 0, 3);
    shipAtHome(x, 10, 0, 2);
    shipAtHome(x, 10, 0, 4);
    x.lay(0, 2, 1);
    x.lay(1, 8, 1);
    x.lay(2, 20, 2);
    x.bunker(0, 0);
    x.bunker(0, 15);
    due("tug 2", x.breaks(2, 0), BAD);
    due("tug -1", x.breaks(-1, 0), BAD);
    due("hour -1", x.breaks(0, -1), BAD);
    due("hour 48", x.breaks(0, 48), BAD);
    due("behind all jobs", x.breaks(0, 40), 0);
    due("broken by then", x.breaks(0, 40), NO);
    due("broken by then", x.breaks(0, 47), NO);
    due("earlier: two off", x.breaks(0, 4), 2);
    due("from then on", x.about(0, 6), 4);
    due("hours ahead stay", x.work(0, 0), 3L << 2);
    due("bunkers ahead stay", x.work(0, 1), 1);
    due("jobs", x.count(2), 1);
    due("taken off", x.count(5), 2);
    due("hours lost", x.count(6), 3);
    due("none by storm", x.count(7), 0);
    due("of another", x.job(2, 0), 20);
    due("not laid with it", x.breaks(1, 0), 1);
    due("four more lost", x.count(6), 7);
    HarbourTugs y = withTug();
    shipAtHome(y, 10, 0, 3);
    y.lay(0, 5, 1);
    due("its last hour", y.breaks(0, 8), 0);
    y.mend(0);
    due("in its last hour", y.breaks(0, 7), 1);
    due("two hours stay", y.work(0, 0), 3L << 5);
  }

  private static void goesOn() {
    HarbourTugs x = new HarbourTugs();
    x.tug(0, 30, 1, 48, 48, 12, 0);
    x.tug(0, 20, 0, 48, 48, 12, 0);
    x.tug(1, 9, 0, 48, 48, 12, 0);
    shipAtHome(x, 40, 0, 3);
    x.lay(0, 4, 3);
    x.keep();
    x.keep();
    x.keep();
    due("ahead of it", x.breaks(0, 4), 1);
    due("six hours lost", x.count(6), 6);
    x.back();
    due("half of it is left", x.breaks(0, 5), 0);
    due("goes on", x.job(0, 0), 4);
    due("with the other", x.job(0, 1), 2);
    due("one hour stays", x.work(0, 0), 1L << 4);
    due("the other goes on", x.work(1, 0), 7L << 4);
    due("two hours lost", x.count(6), 2);
    due("none taken off", x.count(5), 0);
    due("the last breaks", x.breaks(1, 6), 1);
    due("one more lost", x.count(6), 3);
    due("two hours stay", x.work(1, 0), 3L << 4);
    x.back();
    x.wind(6, 1);
    due("wind in its last hour: 48", x.breaks(0, 5), 1);
    due("four hours lost", x.count(6), 4);
    x.back();
    x.wind(4, 1);
    due("wind ahead of the break", x.breaks(0, 5), 0);
    due("off", x.off(0), 4);
    due("its hours are no work", x.work(1, 0), 0);
    due("what the broken one worked stays", x.work(0, 0), 1L << 4);
  }

  private static void mend() {
    promise = 22;
    HarbourTugs x = withTug();
    due("whole", x.mend(0), 0);
    x.breaks(0, 0);
    due("broken", x.mend(0), 1);
    due("whole again", x.mend(0), 0);
    due("in all hours", x.about(0, 6), NONE);
    x.breaks(0, 47);
    due("broken late", x.mend(0), 1);
    due("tug 1", x.mend(1), BAD);
    due("tug -1", x.mend(-1), BAD);
  }

  private static void storm() {
    promise = 23;
    HarbourTugs x = withTwo();
    shipAtHome(x, 40, 0, 4);
    shipAtHome(x, 10, 0, 2);
    shipAtHome(x, 10, 0, 2);
    x.lay(0, 4, 3);
    x.lay(1, 10, 1);
    x.lay(2, 14, 1);
    x.bunker(0, 12);
    due("a above b", x.storm(5, 4), BAD);
    due("a -1", x.storm(-1, 4), BAD);
    due("b 48", x.storm(4, 48), BAD);
    due("a 48", x.storm(48, 48), BAD);
    due("no storm", x.count(3), 0);
    due("two", x.storm(6, 10), 2);
    due("five hours", x.count(3), 5);
    due("hours ahead stay", x.work(0, 0), 3L << 4 | 3L << 14);
    due("of both", x.work(1, 0), 3L << 4);
    due("lost: 2 times 2, and 2", x.count(7), 6);
    due("taken off", x.count(5), 2);
    due("none by breaking", x.count(6), 0);
    due("no job", x.job(0, 0), NONE);
    due("bunkers stay", x.storm(12, 12), 0);
    due("bunkers stay", x.work(0, 1), 1L << 12);
    due("together six", x.count(3), 6);
    due("told again", x.storm(6, 12), 0);
    due("together seven", x.count(3), 7);
    due("the whole time", x.storm(0, 47), 1);
    due("all hours", x.count(3), 48);
  }

  private static void calm() {
    promise = 24;
    HarbourTugs x = withTug();
    shipAtHome(x, 1, 0, 1);
    due("none", x.calm(), 0);
    x.storm(47, 47);
    x.storm(0, 3);
    due("five", x.calm(), 5);
    due("none", x.count(3), 0);
    due("may be", x.may(0, 0, 1), 0);
    due("none any more", x.calm(), 0);
  }

  // ---- promises 25 to 27

  private static void priceRule() {
    promise = 25;
    HarbourTugs x = new HarbourTugs();
    due("test -1", x.priceRule(-1, 0, 0, 0), BAD);
    due("test 7", x.priceRule(7, 0, 0, 0), BAD);
    due("v -1", x.priceRule(0, -1, 0, 0), BAD);
    due("v 401", x.priceRule(0, 401, 0, 0), BAD);
    due("kind -1", x.priceRule(0, 0, -1, 0), BAD);
    due("kind 2", x.priceRule(0, 0, 2, 0), BAD);
    due("amount -1001", x.priceRule(0, 0, 0, -1001), BAD);
    due("amount 100001", x.priceRule(0, 0, 0, 100001), BAD);
    due("hundredths -101", x.priceRule(0, 0, 1, -101), BAD);
    due("hundredths 1001", x.priceRule(0, 0, 1, 1001), BAD);
    due("none", x.count(8), 0);
    due("least", x.priceRule(0, 0, 0, -1000), 1);
    due("most", x.priceRule(6, 400, 0, 100000), 2);
    due("least hundredths", x.priceRule(0, 0, 1, -100), 3);
    due("most hundredths", x.priceRule(0, 0, 1, 1000), 4);
    for (int r = 5; r <= 12; r++) {
      due("number", x.priceRule(0, 0, 0, 1), r);
    }
    due("full", x.priceRule(0, 0, 0, 1), FULL);
    due("BAD goes before FULL", x.priceRule(7, 0, 0, 1), BAD);
  }

  private static long priceOf(int test, int v, int ready, int hour) {
    HarbourTugs x = withTwo();
    x.ship(40, 0, ready, 1, 1, 0, 0);
    x.wind(hour, 2);
    x.priceRule(test, v, 0, 7);
    x.lay(0, hour, 3);
    return x.price(0);
  }

  private static void priceTests() {
    promise = 26;
    due("always", priceOf(0, 400, 8, 8), 7);
    due("size 40", priceOf(1, 40, 8, 8), 7);
    due("size 41", priceOf(1, 41, 8, 8), 0);
    due("wind 2", priceOf(2, 2, 8, 8), 7);
    due("wind 3", priceOf(2, 3, 8, 8), 0);
    due("hour 0", priceOf(3, 0, 0, 0), 7);
    due("hour 5", priceOf(3, 0, 0, 5), 7);
    due("hour 6", priceOf(3, 0, 0, 6), 0);
    due("hour 19", priceOf(3, 0, 0, 19), 0);
    due("hour 20", priceOf(3, 0, 0, 20), 7);
    due("hour 23", priceOf(3, 400, 0, 23), 7);
    due("hour 29", priceOf(3, 0, 0, 29), 7);
    due("hour 30", priceOf(3, 0, 0, 30), 0);
    due("hour 43", priceOf(3, 0, 0, 43), 0);
    due("hour 44", priceOf(3, 0, 0, 44), 7);
    due("two tugs", priceOf(4, 2, 8, 8), 7);
    due("three tugs", priceOf(4, 3, 8, 8), 0);
    due("pull 90", priceOf(5, 90, 8, 8), 7);
    due("pull 91", priceOf(5, 91, 8, 8), 0);
    due("waited 3", priceOf(6, 3, 8, 11), 7);
    due("waited 4", priceOf(6, 4, 8, 11), 0);
  }

  private static void priceCut() {
    HarbourTugs x = withTug();
    shipAtHome(x, 1, 0, 1);
    due("ship 1", x.price(1), -1000000001L);
    due("ship -1", x.price(-1), -1000000001L);
    due("no job", x.price(0), -1000000002L);
    x.lay(0, 0, 1);
    due("no rules", x.price(0), 0);
    x.priceRule(0, 0, 1, 500);
    due("of nothing", x.price(0), 0);
    x.priceRule(0, 0, 0, 199);
    due("199", x.price(0), 199);
    x.priceRule(0, 0, 1, 50);
    due("99 more", x.price(0), 298);
    x.priceRule(0, 0, 1, -10);
    due("29 less", x.price(0), 269);
    x.priceRule(0, 0, 0, -320);
    due("below 0", x.price(0), -51);
    x.priceRule(0, 0, 1, 50);
    due("25 less", x.price(0), -76);
    x.priceRule(0, 0, 1, -100);
    due("all of it", x.price(0), 0);
    HarbourTugs y = withTug();
    shipAtHome(y, 1, 0, 1);
    y.lay(0, 0, 1);
    y.priceRule(0, 0, 0, 100000);
    long price = 100000;
    for (int r = 1; r < 12; r++) {
      y.priceRule(0, 0, 1, 1000);
      price *= 11;
      due("eleven times", y.price(0), price);
    }
    y.off(0);
    due("off", y.price(0), -1000000002L);
  }

  private static void pool() {
    promise = 27;
    HarbourTugs x = withTwo();
    due("no work", x.pool(0, 1000), 1000);
    due("no work", x.pool(1, 1000), 0);
    shipAtHome(x, 10, 0, 3);
    shipAtHome(x, 10, 0, 1);
    x.lay(0, 0, 2);
    due("all of firm 1", x.pool(1, 1000000), 1000000);
    due("nothing left", x.pool(0, 1000000), 0);
    x.lay(1, 10, 1);
    due("90 of 150", x.pool(1, 1000000), 600000);
    due("left", x.pool(0, 1000000), 400000);
    due("cut", x.pool(1, 9), 5);
    due("left", x.pool(0, 9), 4);
    due("of 0", x.pool(0, 0) + x.pool(1, 0), 0);
    due("firm 2", x.pool(2, 1), BAD);
    due("firm -1", x.pool(-1, 1), BAD);
    due("amount -1", x.pool(0, -1), BAD);
    due("amount 1000001", x.pool(0, 1000001), BAD);
    x.off(0);
    due("all of firm 0", x.pool(1, 77), 0);
    HarbourTugs y = new HarbourTugs();
    y.tug(0, 60, 1, 48, 48, 12, 0);
    y.tug(1, 60, 1, 48, 48, 12, 0);
    for (int s = 0; s < 8; s++) {
      shipAtHome(y, 50, 0, 4);
      y.lay(s, 6 * s, 3);
    }
    due("much work", y.pool(1, 1000000), 500000);
  }

  // ---- promises 28 to 32

  private static void work() {
    promise = 28;
    HarbourTugs x = withTug();
    x.ship(1, 0, 44, 4, 1, 0, 0);
    due("none", x.work(0, 0), 0);
    due("none", x.work(0, 1), 0);
    x.lay(0, 44, 1);
    x.bunker(0, 0);
    x.bunker(0, 40);
    due("work", x.work(0, 0), 15L << 44);
    due("bunkers", x.work(0, 1), 1L << 40 | 1);
    due("what 2", x.work(0, 2), BAD);
    due("what -1", x.work(0, -1), BAD);
    due("tug 1", x.work(1, 0), BAD);
    due("tug -1", x.work(-1, 0), BAD);
  }

  private static void about() {
    promise = 29;
    HarbourTugs x = new HarbourTugs();
    x.tug(1, 23, 1, 17, 31, 12, 4);
    int[] told = {1, 23, 1, 31, 12, 4, NONE, 4};
    for (int what = 0; what < told.length; what++) {
      due("what " + what, x.about(0, what), told[what]);
    }
    due("what 8", x.about(0, 8), -100);
    due("what -1", x.about(0, -1), -100);
    due("tug 1", x.about(1, 0), -100);
    due("tug -1", x.about(-1, 0), -100);
    x.ship(1, 0, 0, 1, 1, 4, 1);
    x.ship(1, 0, 0, 1, 1, 4, 2);
    x.lay(0, 20, 1);
    x.lay(1, 5, 1);
    due("behind the last of them", x.about(0, 7), 1);
    x.off(0);
    due("behind the other", x.about(0, 7), 2);
    x.breaks(0, 0);
    due("home", x.about(0, 7), 4);
    due("broken from 0", x.about(0, 6), 0);
    x.mend(0);
    x.breaks(0, 47);
    due("broken from 47", x.about(0, 6), 47);
  }

  private static void keep() {
    promise = 30;
    HarbourTugs x = new HarbourTugs();
    due("one", x.keep(), 1);
    due("two", x.keep(), 2);
    due("three", x.keep(), 3);
    due("full", x.keep(), FULL);
    due("three", x.count(9), 3);
    x.back();
    due("three again", x.keep(), 3);
  }

  private static void back() {
    promise = 31;
    HarbourTugs x = withTug();
    due("none", x.back(), NO);
    shipAtHome(x, 10, 0, 2);
    x.lay(0, 3, 1);
    x.bunker(0, 9);
    x.storm(20, 21);
    x.keep();
    x.tide(1, 1);
    x.wind(1, 1);
    x.rule(0, 1);
    x.rule(1, 1);
    x.rule(2, 1);
    x.berth(5, 0, 7);
    x.berth(5, 1, 1);
    x.priceRule(0, 0, 0, 9);
    x.breaks(0, 4);
    x.storm(3, 3);
    x.calm();
    x.tug(0, 1, 0, 1, 1, 1, 1);
    x.breaks(1, 3);
    x.bunker(1, 2);
    x.ship(1, 0, 0, 1, 1, 0, 0);
    due("back", x.back(), 0);
    due("none is left", x.back(), NO);
    due("tugs", x.count(0), 1);
    due("ships", x.count(1), 1);
    due("job", x.job(0, 0), 3);
    due("work", x.work(0, 0), 3L << 3);
    due("bunkers", x.work(0, 1), 1L << 9);
    due("whole", x.about(0, 6), NONE);
    due("storm", x.count(3), 2);
    due("laid ever", x.count(4), 1);
    due("taken off", x.count(5), 0);
    due("lost", x.count(6) + x.count(7), 0);
    due("tide", x.tide(1, 5), 5);
    due("wind", x.wind(1, 0), 0);
    due("rest", x.rule(0, 2), 2);
    due("fire", x.rule(1, 0), 0);
    due("speed", x.rule(2, 10), 10);
    due("places are not kept", x.berth(5, 0, 50), 7);
    due("basins are not kept", x.berth(5, 1, 0), 1);
    due("rules are not kept", x.count(8), 1);
    due("a new tug comes whole", x.tug(0, 1, 0, 1, 1, 1, 1), 1);
    due("whole", x.about(1, 6), NONE);
    due("without bunkers", x.work(1, 1), 0);
    backTwice();
  }

  private static void backTwice() {
    HarbourTugs y = withTwo();
    shipAtHome(y, 10, 0, 1);
    shipAtHome(y, 10, 0, 1);
    y.lay(0, 3, 1);
    y.lay(1, 8, 2);
    y.storm(3, 3);
    y.breaks(1, 8);
    y.keep();
    y.mend(1);
    y.lay(0, 9, 2);
    y.lay(1, 11, 1);
    y.storm(11, 11);
    y.breaks(1, 0);
    y.back();
    due("broken as kept", y.about(1, 6), 8);
    due("laid ever", y.count(4), 2);
    due("taken off", y.count(5), 2);
    due("lost by breaking", y.count(6), 1);
    due("lost by storm", y.count(7), 1);
    HarbourTugs x = withTug();
    x.keep();
    x.wind(0, 3);
    x.keep();
    x.wind(0, 4);
    x.keep();
    x.wind(0, 5);
    due("two are left", x.back(), 2);
    due("the last", x.wind(0, 9), 4);
    due("one is left", x.back(), 1);
    due("the one ahead of it", x.wind(0, 9), 3);
    due("none is left", x.back(), 0);
    due("the first", x.wind(0, 9), 0);
  }

  private static void count() {
    promise = 32;
    HarbourTugs x = withTwo();
    for (int s = 0; s < 4; s++) {
      shipAtHome(x, 10, 0, 2);
    }
    x.lay(0, 0, 1);
    x.lay(1, 4, 1);
    x.lay(2, 8, 1);
    x.off(0);
    x.lay(0, 0, 1);
    x.breaks(0, 8);
    x.storm(5, 7);
    x.priceRule(0, 0, 0, 0);
    x.priceRule(0, 0, 0, 0);
    x.keep();
    int[] due = {2, 4, 1, 3, 4, 2, 2, 1, 2, 1};
    for (int what = 0; what < due.length; what++) {
      due("what " + what, x.count(what), due[what]);
    }
    due("what -1", x.count(-1), BAD);
    due("what 10", x.count(10), BAD);
  }
}
