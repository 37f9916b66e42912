import java.util.ArrayList;
import java.util.Arrays;
import java.util.List;

/**
 * Each boundary that the document names, promise by promise: the least and the most of every number
 * and one beyond, what is empty and what is full, what wraps around, which answer goes first, and
 * that a refused call and a question change nothing.
 */
public final class EdgeTest {
  private static final int BAD = -1, NO = -2, FULL = -3, NONE = -4;
  private static final long BAD_PRICE = -1000000001L, NO_PRICE = -1000000002L;
  private static final int BAD_ABOUT = -100;
  private static final int MIN = Integer.MIN_VALUE, MAX = Integer.MAX_VALUE;

  interface Call {
    long of(HarbourTugs x);
  }

  interface CallWith {
    long of(HarbourTugs x, int[] a);
  }

  interface Start {
    HarbourTugs make();
  }

  private static int wrong = 0;
  private static int asked = 0;
  private static String part = "";

  private static void due(String what, long got, long want) {
    asked++;
    if (got != want) {
      wrong++;
      System.out.println(part + ": " + what + " answered " + got + ", due is " + want);
    }
  }

  private static void so(String what, boolean is) {
    due(what, is ? 1 : 0, 1);
  }

  public static void main(String[] args) {
    numbers();
    refusals();
    questions();
    checksInOrder();
    empty();
    firstHourAndLast();
    tides();
    winds();
    crews();
    fuels();
    ways();
    basins();
    fire();
    bests();
    ordersAndPlans();
    mendedPlans();
    breaking();
    storms();
    prices();
    pools();
    keeping();
    manyCalls();
    System.out.println(wrong == 0 ? "all " + asked + " answers are as due"
        : wrong + " of " + asked + " answers are not as due");
    if (wrong != 0) {
      System.exit(1);
    }
  }

  // ---- harbours to begin with

  /** A strong tug that never tires, astern too, at berth 0; more of them by number. */
  private static HarbourTugs withTugs(int n) {
    HarbourTugs x = new HarbourTugs();
    for (int t = 0; t < n; t++) {
      x.tug(t % 2, 60, 1, 48, 48, 12, 0);
    }
    return x;
  }

  private static int shipAtHome(HarbourTugs x, int ready, int length) {
    return x.ship(10, 0, ready, length, 1, 0, 0);
  }

  /** Some of all: 4 tugs, 5 ships, 2 with jobs, bunkers, a broken tug, a storm, rules, a kept one. */
  private static HarbourTugs busy() {
    HarbourTugs x = new HarbourTugs();
    x.tug(0, 20, 1, 10, 20, 4, 0);
    x.tug(1, 30, 0, 20, 30, 6, 1);
    x.tug(1, 40, 1, 30, 40, 8, 2);
    x.tug(0, 25, 1, 5, 48, 12, 0);
    x.ship(12, 3, 2, 2, 5, 0, 1);
    x.ship(30, 2, 4, 3, 7, 1, 2);
    x.ship(20, 0, 1, 1, 2, 2, 0);
    x.ship(50, 5, 6, 4, 20, 0, 2);
    x.ship(5, 9, 3, 1, 1, 1, 1);
    x.wind(7, 4);
    x.tide(5, 8);
    x.berth(4, 1, 1);
    x.berth(5, 0, 33);
    x.lay(0, 2, 1);
    x.lay(1, 8, 6);
    x.bunker(0, 15);
    x.bunker(2, 20);
    x.breaks(3, 30);
    x.storm(40, 43);
    x.priceRule(0, 0, 0, 700);
    x.priceRule(1, 20, 1, 30);
    x.keep();
    return x;
  }

  /** No room for a tug, a ship, a rule, a kept one. */
  private static HarbourTugs full() {
    HarbourTugs x = busy();
    while (x.tug(1, 33, 0, 7, 9, 5, 3) != FULL) {
      so("a tug came", x.count(0) <= 6);
    }
    while (x.ship(9, 1, 5, 2, 3, 3, 3) != FULL) {
      so("a ship came", x.count(1) <= 8);
    }
    while (x.priceRule(0, 0, 0, 1) != FULL) {
      so("a rule came", x.count(8) <= 12);
    }
    while (x.keep() != FULL) {
      so("all was kept", x.count(9) <= 3);
    }
    return x;
  }

  /** All that can be asked, as a list; what is told to be asked is told back. */
  private static List<Long> everything(HarbourTugs x) {
    List<Long> all = new ArrayList<>();
    askTold(x, all);
    for (int t = 0; t < 6; t++) {
      for (int what = 0; what <= 7; what++) {
        all.add((long) x.about(t, what));
      }
      all.add(x.work(t, 0));
      all.add(x.work(t, 1));
      all.add((long) x.fuel(t, -1));
      all.add((long) x.fuel(t, 47));
    }
    for (int s = 0; s < 8; s++) {
      all.add((long) x.job(s, 0));
      all.add((long) x.job(s, 1));
      all.add(x.price(s));
      all.add((long) x.best(s, 0));
      all.add((long) x.best(s, 1));
    }
    for (int what = 0; what <= 9; what++) {
      all.add((long) x.count(what));
    }
    all.add((long) x.pool(1, 1000000));
    for (int what = 0; what <= 3; what++) {
      all.add((long) x.mended(4, what));
    }
    while (x.count(9) > 0) {
      x.back();
      all.add((long) x.count(0) * 10000 + x.count(1) * 1000 + x.count(2) * 100 + x.count(9));
      all.add(x.work(0, 0));
    }
    return all;
  }

  private static void askTold(HarbourTugs x, List<Long> all) {
    for (int h = 0; h < 12; h++) {
      int was = x.tide(h, 0);
      x.tide(h, was);
      all.add((long) was);
    }
    for (int h = 0; h < 48; h++) {
      int was = x.wind(h, 0);
      x.wind(h, was);
      all.add((long) was);
    }
    for (int what = 0; what <= 2; what++) {
      int was = x.rule(what, 1);
      x.rule(what, was);
      all.add((long) was);
    }
    int speed = x.rule(2, 1);
    for (int b = 1; b < 6; b++) {
      all.add((long) x.way(0, b));
    }
    x.rule(2, speed);
    for (int b = 0; b < 6; b++) {
      int was = x.berth(b, 1, 0);
      x.berth(b, 1, Math.max(was, 0));
      all.add((long) was);
    }
  }

  /** A call is answered so, and nothing changes by it. */
  private static void changesNothing(String what, Start start, long want, Call call) {
    HarbourTugs x = start.make();
    due(what, call.of(x), want);
    so(what + " changes nothing", everything(x).equals(everything(start.make())));
  }

  // ---- the least and the most of every number

  /** Each number of a call: its least and most are taken, one beyond them and far beyond is BAD. */
  private static void within(long bad, int[] good, int[][] ends, CallWith call) {
    for (int i = 0; i < good.length; i++) {
      for (int v : ends[i]) {
        int[] a = good.clone();
        a[i] = v;
        so(Arrays.toString(a) + " is told", call.of(busy(), a) != bad);
      }
      for (int v : new int[] {ends[i][0] - 1, ends[i][1] + 1, MIN, MAX}) {
        int[] a = good.clone();
        a[i] = v;
        changesNothing(Arrays.toString(a), EdgeTest::busy, bad, x -> call.of(x, a));
      }
    }
  }

  private static int[] of(int... a) {
    return a;
  }

  private static int[][] ends(int... a) {
    int[][] e = new int[a.length / 2][];
    for (int i = 0; i < e.length; i++) {
      e[i] = new int[] {a[2 * i], a[2 * i + 1]};
    }
    return e;
  }

  private static void numbers() {
    numbersTold();
    numbersOfComers();
    numbersOfJobs();
    numbersOfPlans();
    numbersOfBooks();
  }

  private static void numbersTold() {
    part = "2 tide";
    within(BAD, of(3, 4), ends(0, 11, 0, 9), (x, a) -> x.tide(a[0], a[1]));
    part = "3 wind";
    within(BAD, of(3, 4), ends(0, 47, 0, 9), (x, a) -> x.wind(a[0], a[1]));
    part = "4 rule";
    within(BAD, of(0, 1), ends(0, 2, 0, 6), (x, a) -> x.rule(a[0], a[1]));
    within(BAD, of(1, 1), ends(0, 2, 0, 1), (x, a) -> x.rule(a[0], a[1]));
    within(BAD, of(2, 1), ends(0, 2, 1, 30), (x, a) -> x.rule(a[0], a[1]));
    part = "5 berth";
    within(BAD, of(3, 0, 1), ends(0, 5, 0, 1, 0, 60), (x, a) -> x.berth(a[0], a[1], a[2]));
    within(BAD, of(3, 1, 1), ends(0, 5, 0, 1, 0, 1), (x, a) -> x.berth(a[0], a[1], a[2]));
    part = "6 way";
    within(BAD, of(3, 1), ends(0, 5, 0, 5), (x, a) -> x.way(a[0], a[1]));
  }

  private static void numbersOfComers() {
    part = "7 tug";
    within(BAD, of(0, 30, 1, 0, 20, 5, 3), ends(0, 1, 1, 60, 0, 1, 0, 20, 1, 48, 1, 12, 0, 5),
        (x, a) -> x.tug(a[0], a[1], a[2], a[3], a[4], a[5], a[6]));
    part = "8 ship";
    within(BAD, of(30, 4, 10, 2, 5, 1, 2), ends(1, 50, 0, 9, 0, 47, 1, 4, 1, 20, 0, 5, 0, 5),
        (x, a) -> x.ship(a[0], a[1], a[2], a[3], a[4], a[5], a[6]));
    part = "9 needs";
    within(BAD, of(2, 7), ends(0, 4, 0, 47), (x, a) -> x.needs(a[0], a[1]));
    part = "10 bunker";
    within(BAD, of(2, 25), ends(0, 3, 0, 47), (x, a) -> x.bunker(a[0], a[1]));
    part = "11 fuel";
    within(BAD, of(0, 7), ends(0, 3, -1, 47), (x, a) -> x.fuel(a[0], a[1]));
  }

  private static void numbersOfJobs() {
    part = "12 may";
    within(BAD, of(2, 20, 5), ends(0, 4, 0, 47, 1, 15), (x, a) -> x.may(a[0], a[1], a[2]));
    part = "13 lay";
    within(BAD, of(2, 20, 5), ends(0, 4, 0, 47, 1, 15), (x, a) -> x.lay(a[0], a[1], a[2]));
    part = "14 off";
    within(BAD, of(0), ends(0, 4), (x, a) -> x.off(a[0]));
    part = "15 best";
    within(BAD, of(2, 0), ends(0, 4, 0, 1), (x, a) -> x.best(a[0], a[1]));
    part = "16 job";
    within(BAD, of(0, 0), ends(0, 4, 0, 1), (x, a) -> x.job(a[0], a[1]));
    within(BAD, of(2, 0), ends(0, 4, 0, 1), (x, a) -> x.job(a[0], a[1]));
  }

  private static void numbersOfPlans() {
    part = "17 order";
    within(BAD, of(3), ends(1, 4), (x, a) -> x.order(a[0], -1));
    within(BAD, of(3), ends(1, 4), (x, a) -> x.order(a[0], 9));
    part = "18 layOrder";
    within(BAD, of(3), ends(1, 4), (x, a) -> x.layOrder(a[0]));
    part = "19 mended";
    within(BAD, of(3, 2), ends(1, 4, 0, 3), (x, a) -> x.mended(a[0], a[1]));
    part = "20 layMended";
    within(BAD, of(3), ends(1, 4), (x, a) -> x.layMended(a[0]));
    part = "21 breaks";
    within(BAD, of(0, 3), ends(0, 3, 0, 47), (x, a) -> x.breaks(a[0], a[1]));
    part = "22 mend";
    within(BAD, of(0), ends(0, 3), (x, a) -> x.mend(a[0]));
    part = "23 storm";
    within(BAD, of(10, 20), ends(0, 20, 10, 47), (x, a) -> x.storm(a[0], a[1]));
    within(BAD, of(47, 47), ends(0, 47, 47, 47), (x, a) -> x.storm(a[0], a[1]));
  }

  private static void numbersOfBooks() {
    part = "25 priceRule";
    within(BAD, of(2, 3, 0, 5), ends(0, 6, 0, 400, 0, 1, -1000, 100000),
        (x, a) -> x.priceRule(a[0], a[1], a[2], a[3]));
    within(BAD, of(2, 3, 1, 5), ends(0, 6, 0, 400, 0, 1, -100, 1000),
        (x, a) -> x.priceRule(a[0], a[1], a[2], a[3]));
    part = "26 price";
    within(BAD_PRICE, of(0), ends(0, 4), (x, a) -> x.price(a[0]));
    part = "27 pool";
    within(BAD, of(0, 500), ends(0, 1, 0, 1000000), (x, a) -> x.pool(a[0], a[1]));
    within(BAD, of(1, 500), ends(0, 1, 0, 1000000), (x, a) -> x.pool(a[0], a[1]));
    part = "28 work";
    within(BAD, of(0, 0), ends(0, 3, 0, 1), (x, a) -> x.work(a[0], a[1]));
    part = "29 about";
    within(BAD_ABOUT, of(0, 0), ends(0, 3, 0, 7), (x, a) -> x.about(a[0], a[1]));
    part = "32 count";
    within(BAD, of(0), ends(0, 9), (x, a) -> x.count(a[0]));
  }

  // ---- refused calls

  private static void no(String what, long want, Call call) {
    changesNothing(what, EdgeTest::busy, want, call);
  }

  private static void refusals() {
    refusedForJobs();
    refusedForBunkers();
    refusedInBooks();
    refusedWhenFull();
    badGoesFirst();
  }

  private static void refusedForJobs() {
    part = "5 berth NO";
    no("a job is from it", NO, x -> x.berth(0, 0, 5));
    no("a job is from it, another to it", NO, x -> x.berth(1, 1, 1));
    no("a job is to it", NO, x -> x.berth(2, 0, 5));
    part = "12 may NO";
    no("a job is laid", NO, x -> x.may(0, 2, 1));
    no("a job is laid, and it may not be", NO, x -> x.may(0, 47, 2));
    part = "13 lay NO";
    no("a job is laid", NO, x -> x.lay(0, 20, 1));
    no("1: ahead of ready", NO, x -> x.lay(3, 5, 7));
    no("1: beyond 47", NO, x -> x.lay(3, 45, 7));
    no("2: tide", NO, x -> x.lay(4, 20, 4));
    no("3: pull", NO, x -> x.lay(3, 24, 4));
    no("4: astern", NO, x -> x.lay(2, 24, 2));
    no("5: bunkers", NO, x -> x.lay(2, 15, 1));
    no("8: broken", NO, x -> x.lay(2, 30, 8));
    no("9: basin", NO, x -> x.lay(2, 3, 4));
    no("11: way", NO, x -> x.lay(2, 1, 1));
    no("12: storm", NO, x -> x.lay(2, 43, 4));
    part = "14 off NO";
    no("no job", NO, x -> x.off(2));
    part = "15 best NO";
    no("a job is laid: hour", NO, x -> x.best(0, 0));
    no("a job is laid: set", NO, x -> x.best(1, 1));
  }

  private static void refusedForBunkers() {
    part = "10 bunker NO";
    no("first hour of work", NO, x -> x.bunker(0, 2));
    no("last hour of work", NO, x -> x.bunker(2, 10));
    no("bunkers", NO, x -> x.bunker(0, 15));
    no("broken from then", NO, x -> x.bunker(3, 30));
    no("broken since", NO, x -> x.bunker(3, 47));
    no("first hour of storm", NO, x -> x.bunker(0, 40));
    no("last hour of storm", NO, x -> x.bunker(0, 43));
    due("ahead of work", busy().bunker(0, 1), 20);
    due("behind work", busy().bunker(0, 4), 20);
    due("ahead of the break", busy().bunker(3, 29), 17);
    due("ahead of the storm", busy().bunker(0, 39), 20);
    due("behind the storm", busy().bunker(0, 44), 20);
  }

  private static void refusedInBooks() {
    part = "21 breaks NO";
    no("broken from then", NO, x -> x.breaks(3, 30));
    no("broken since", NO, x -> x.breaks(3, 47));
    due("not broken by then", busy().breaks(3, 29), 0);
    part = "26 price NO";
    no("no job", NO_PRICE, x -> x.price(2));
    part = "31 back NO";
    changesNothing("none is kept", HarbourTugs::new, NO, HarbourTugs::back);
  }

  private static void refusedWhenFull() {
    part = "FULL";
    changesNothing("tug", EdgeTest::full, FULL, x -> x.tug(0, 10, 0, 3, 4, 5, 2));
    changesNothing("ship", EdgeTest::full, FULL, x -> x.ship(10, 5, 3, 2, 2, 1, 1));
    changesNothing("rule", EdgeTest::full, FULL, x -> x.priceRule(0, 0, 0, 5));
    changesNothing("keep", EdgeTest::full, FULL, HarbourTugs::keep);
    due("tugs", full().count(0), 6);
    due("ships", full().count(1), 8);
    due("rules", full().count(8), 12);
    due("kept", full().count(9), 3);
  }

  private static void badGoesFirst() {
    part = "BAD goes before NO and FULL";
    no("berth with a job, place 61", BAD, x -> x.berth(0, 0, 61));
    no("berth with a job, what 2", BAD, x -> x.berth(0, 2, 0));
    no("bunker of a broken tug, hour 48", BAD, x -> x.bunker(3, 48));
    no("may of a ship with a job, no set", BAD, x -> x.may(0, 2, 0));
    no("may of a ship with a job, hour 48", BAD, x -> x.may(0, 48, 1));
    no("lay of a ship with a job, tug 4", BAD, x -> x.lay(0, 2, 17));
    no("best of a ship with a job, what 2", BAD, x -> x.best(0, 2));
    no("job of a ship without, what 2", BAD, x -> x.job(2, 2));
    no("breaks of a broken tug, hour 48", BAD, x -> x.breaks(3, 48));
    changesNothing("seventh tug, pull 0", EdgeTest::full, BAD, x -> x.tug(0, 0, 0, 3, 4, 5, 2));
    changesNothing("ninth ship, size 0", EdgeTest::full, BAD, x -> x.ship(0, 5, 3, 2, 2, 1, 1));
    changesNothing("13th rule, test 7", EdgeTest::full, BAD, x -> x.priceRule(7, 0, 0, 5));
    part = "7 tug";
    no("fuel above the tank", BAD, x -> x.tug(0, 10, 0, 5, 4, 5, 2));
    due("fuel to the brim", busy().tug(0, 10, 0, 4, 4, 5, 2), 4);
  }

  // ---- questions change nothing

  private static void questions() {
    part = "a question";
    no("way", 2, x -> x.way(0, 2));
    no("needs", 9, x -> x.needs(4, 7));
    no("fuel", 8, x -> x.fuel(0, 3));
    no("may", 0, x -> x.may(2, 20, 1) * 0);
    no("best", 1, x -> x.best(2, 0));
    no("best set", 4, x -> x.best(2, 1));
    no("job", 2, x -> x.job(0, 0));
    no("job of none", NONE, x -> x.job(2, 1));
    no("order", 0, x -> x.order(4, -1) * 0);
    no("order's ship", 0, x -> x.order(4, 3) * 0);
    no("order's fifth of four", NONE, x -> x.order(4, 4));
    no("order's second of one", NONE, x -> x.order(1, 1));
    no("mended", 0, x -> x.mended(4, 0) * 0);
    no("mended bits", 0, x -> x.mended(3, 3) * 0);
    no("price", 700, x -> x.price(0));
    no("price of 30 more", 910, x -> x.price(1));
    no("pool", 0, x -> x.pool(0, 0));
    no("work", 12, x -> x.work(0, 0));
    no("bunkers", 1 << 15, x -> x.work(0, 1));
    no("about", 30, x -> x.about(3, 6));
    no("count", 2, x -> x.count(2));
  }

  // ---- 12: by the first check that is not so

  /** A job that fails by all twelve checks; one after the other is mended, from the first on. */
  private static void checksInOrder() {
    part = "12 may, the first of those that fail";
    HarbourTugs x = new HarbourTugs();
    x.tug(0, 30, 0, 48, 48, 12, 0);
    x.tug(0, 10, 1, 0, 20, 1, 5);
    x.tug(0, 60, 1, 48, 48, 12, 0);
    x.berth(4, 0, 0);
    x.berth(4, 1, 1);
    x.ship(20, 6, 9, 4, 1, 0, 0);
    x.ship(20, 6, 8, 4, 1, 0, 0);
    int besides = x.ship(1, 0, 0, 1, 1, 4, 4);
    int inBasin = x.ship(1, 0, 0, 1, 1, 0, 0);
    due("laid besides", x.lay(besides, 8, 5), 0);
    due("laid in its basin", x.lay(inBasin, 9, 4), 0);
    x.wind(10, 9);
    x.rule(1, 1);
    x.rule(2, 1);
    x.breaks(1, 11);
    x.storm(11, 11);
    due("all twelve", x.may(0, 8, 1), 1);
    due("ready", x.may(1, 8, 1), 2);
    for (int h = 8; h <= 11; h++) {
      x.tide(h, 6);
    }
    due("tide", x.may(1, 8, 1), 3);
    x.wind(10, 0);
    due("pull", x.may(1, 8, 1), 4);
    due("one astern", x.may(1, 8, 3), 5);
    x.off(besides);
    due("no work", x.may(1, 8, 3), 6);
    x.bunker(1, 2);
    due("fuel", x.may(1, 8, 3), 7);
    x.rule(0, 0);
    due("crew", x.may(1, 8, 3), 8);
    x.mend(1);
    due("whole", x.may(1, 8, 3), 9);
    x.off(inBasin);
    due("laid besides again", x.lay(besides, 9, 4), 0);
    due("basin", x.may(1, 8, 3), 10);
    x.rule(1, 0);
    due("no fire", x.may(1, 8, 3), 11);
    x.rule(2, 30);
    due("way", x.may(1, 8, 3), 12);
    x.calm();
    due("calm", x.may(1, 8, 3), 0);
    due("it is laid", x.lay(1, 8, 3), 0);
  }

  // ---- what is empty

  private static void empty() {
    part = "empty";
    HarbourTugs x = new HarbourTugs();
    due("storm over no job", x.storm(0, 47), 0);
    due("all hours", x.calm(), 48);
    due("pool without tugs", x.pool(0, 1000000), 1000000);
    due("pool without tugs", x.pool(1, 1000000), 0);
    for (int n = 0; n <= 4; n++) {
      due("order of no ships", x.order(n, -1), BAD);
      due("plan of no ships", x.layOrder(n), BAD);
      due("mended of no ships", x.mended(n, 0), BAD);
      due("mended of no ships", x.layMended(n), BAD);
    }
    due("kept", x.keep(), 1);
    due("back", x.back(), 0);
    emptyOfTugs();
    emptyOfJobs();
  }

  private static void emptyOfTugs() {
    HarbourTugs x = new HarbourTugs();
    x.ship(10, 0, 0, 1, 3, 0, 0);
    x.ship(10, 0, 47, 1, 20, 0, 0);
    due("a set without tugs", x.may(0, 0, 1), BAD);
    due("no set", x.lay(0, 0, 0), BAD);
    due("no best", x.best(0, 0), NONE);
    due("no best set", x.best(0, 1), NONE);
    due("3 times 60, 20 times 13", x.order(2, -1), 440);
    due("by numbers", x.order(2, 0) * 10 + x.order(2, 1), 1);
    due("none has a job", x.layOrder(2), 0);
    due("none would have", x.mended(2, 0), 0);
    due("none off", x.mended(2, 1) + x.mended(2, 3), 0);
    due("all wait", x.mended(2, 2), 440);
    due("none has", x.layMended(2), 0);
    due("none laid", x.count(2) + x.count(4), 0);
  }

  private static void emptyOfJobs() {
    HarbourTugs x = withTugs(2);
    due("breaks without jobs", x.breaks(0, 0), 0);
    due("none lost", x.count(5) + x.count(6), 0);
    due("at home", x.about(1, 7), 0);
    due("no work", x.work(1, 0), 0);
    due("no ship has a job", x.count(2), 0);
    due("pool without work", x.pool(0, 7), 7);
    due("pool without work", x.pool(1, 7), 0);
  }

  // ---- the first hour and the last, check 1 and check 5

  private static void firstHourAndLast() {
    part = "12 may 1 and 5";
    HarbourTugs x = withTugs(1);
    for (int length = 1; length <= 4; length++) {
      int s = shipAtHome(x, 0, length);
      due("hour 0", x.may(s, 0, 1), 0);
      due("ends with hour 47", x.may(s, 48 - length, 1), 0);
      due("ends behind it", x.may(s, Math.min(47, 49 - length), 1), length == 1 ? 0 : 1);
    }
    int late = shipAtHome(x, 47, 1);
    due("ahead of the last hour", x.may(late, 46, 1), 1);
    due("in the last hour", x.lay(late, 47, 1), 0);
    due("the highest bit", x.work(0, 0), 1L << 47);
    due("four hours, the last taken", x.may(3, 44, 1), 5);
    due("four hours ahead of it", x.may(3, 43, 1), 0);
    due("off", x.off(late), 47);
    due("in the first hours", x.lay(3, 0, 1), 0);
    due("the lowest bits", x.work(0, 0), 15);
    due("its last hour taken", x.may(0, 3, 1), 5);
    due("behind it", x.may(0, 4, 1), 0);
    x.bunker(0, 10);
    due("bunkers in its last hour", x.may(2, 8, 1), 5);
    due("bunkers in its first", x.may(2, 10, 1), 5);
    due("bunkers behind", x.may(2, 7, 1), 0);
    due("bunkers ahead", x.may(2, 11, 1), 0);
    int never = shipAtHome(x, 46, 3);
    due("no hour is left", x.best(never, 0), NONE);
    due("not even at ready", x.may(never, 46, 1), 1);
  }

  // ---- the tide goes round, check 2

  private static void tides() {
    part = "12 may 2";
    HarbourTugs x = withTugs(1);
    for (int h = 0; h < 12; h++) {
      x.tide(h, h == 0 ? 6 : 7);
    }
    x.ship(10, 7, 0, 2, 1, 0, 0);
    x.ship(10, 6, 0, 2, 1, 0, 0);
    for (int day = 0; day < 48; day += 12) {
      due("low in its first hour", x.may(0, day, 1), 2);
      due("behind the low hour", x.may(0, day + 1, 1), 0);
      due("ahead of the next low hour", x.may(0, day + 10, 1), 0);
      due("low in its last hour", x.may(0, day + 11, 1), day == 36 ? 1 : 2);
      due("as deep as the draft", x.may(1, day, 1), 0);
    }
    due("best is behind it", x.best(0, 0), 1);
    HarbourTugs y = withTugs(1);
    for (int h = 0; h < 12; h++) {
      y.tide(h, 0);
    }
    y.ship(10, 0, 0, 1, 1, 0, 0);
    y.ship(10, 9, 0, 1, 1, 0, 0);
    due("no draft, no tide", y.may(0, 0, 1), 0);
    due("no tide", y.best(1, 0), NONE);
    y.tide(11, 9);
    due("the highest tide", y.best(1, 0), 11);
    y.storm(11, 34);
    due("the last of them", y.best(1, 0), 35);
  }

  // ---- wind and pull, check 3

  private static void winds() {
    part = "9 needs";
    for (int v = 0; v <= 9; v++) {
      HarbourTugs x = new HarbourTugs();
      x.wind(13, v);
      for (int size : new int[] {1, 2, 4, 5, 7, 9, 33, 50}) {
        if (x.count(1) < 8) {
          int s = x.ship(size, 0, 0, 1, 1, 0, 0);
          due(size + " in wind " + v, x.needs(s, 13), size + size * v / 5);
          due("a day of tide behind", x.needs(s, 25), size);
        }
      }
    }
    part = "12 may 3";
    HarbourTugs x = new HarbourTugs();
    x.tug(0, 20, 1, 48, 48, 12, 0);
    x.tug(0, 15, 0, 48, 48, 12, 0);
    x.ship(25, 0, 0, 3, 1, 0, 0);
    x.wind(5, 2);
    for (int h = 3; h <= 5; h++) {
      due("35 of 35", x.may(0, h, 3), 0);
      due("20 of 35", x.may(0, h, 1), 3);
    }
    x.wind(5, 3);
    for (int h = 3; h <= 5; h++) {
      due("35 of 40", x.may(0, h, 3), 3);
    }
    due("ahead", x.may(0, 2, 3), 0);
    due("behind", x.may(0, 6, 3), 0);
  }

  // ---- crews, check 7

  /** Of a crew that rests the hours between two jobs that it may not, and may. */
  private static void crew(int crew, int rest, int worked) {
    HarbourTugs x = new HarbourTugs();
    x.tug(0, 60, 1, 48, 48, crew, 0);
    x.rule(0, rest);
    int laid = 0;
    for (int h = 10; h < 10 + worked; h++) {
      due("laid", x.lay(shipAtHome(x, 0, 1), h, 1), 0);
      laid++;
    }
    int s = shipAtHome(x, 0, 1);
    String of = "a crew of " + crew + " that rests " + rest + " and worked " + worked;
    for (int h = 0; h < 48; h++) {
      int want = 0;
      if (h >= 10 && h < 10 + worked) {
        want = 5;
      } else if (laid == crew && h >= 10 + worked - crew - rest && h < 10 + crew + rest) {
        want = 7;
      }
      due(of + " at " + h, x.may(s, h, 1), want);
    }
  }

  private static void crews() {
    part = "12 may 7";
    for (int rest = 0; rest <= 6; rest++) {
      crew(1, rest, 1);
      crew(3, rest, 3);
      crew(3, rest, 2);
      crew(6, rest, 6);
    }
    crewOfTheMost();
    crewLessThanLength();
    bunkersAreRest();
  }

  /** Twelve hours of work, then six of rest. */
  private static void crewOfTheMost() {
    HarbourTugs x = withTugs(1);
    x.rule(0, 6);
    for (int j = 0; j < 3; j++) {
      due("laid", x.lay(shipAtHome(x, 0, 4), 4 * j, 1), 0);
    }
    int s = shipAtHome(x, 0, 1);
    due("13th hour", x.may(s, 12, 1), 7);
    due("18th hour", x.may(s, 17, 1), 7);
    due("19th hour", x.may(s, 18, 1), 0);
    due("best is then", x.best(s, 0), 18);
    HarbourTugs y = withTugs(1);
    y.rule(0, 6);
    for (int j = 0; j < 3; j++) {
      due("laid late", y.lay(shipAtHome(y, 0, 4), 36 + 4 * j, 1), 0);
    }
    int t = shipAtHome(y, 0, 1);
    due("six hours ahead", y.may(t, 30, 1), 7);
    due("seven hours ahead", y.may(t, 29, 1), 0);
    HarbourTugs z = withTugs(1);
    z.rule(0, 6);
    for (int h : new int[] {0, 12, 20}) {
      due("laid with gaps", z.lay(shipAtHome(z, 0, 4), h, 1), 0);
    }
    due("all of 18 hours hold 12", z.may(shipAtHome(z, 0, 4), 8, 1), 0);
  }

  private static void crewLessThanLength() {
    HarbourTugs x = new HarbourTugs();
    x.tug(0, 60, 1, 48, 48, 3, 0);
    int four = shipAtHome(x, 0, 4);
    int three = shipAtHome(x, 0, 3);
    due("four of three", x.may(four, 10, 1), 7);
    due("never", x.best(four, 0), NONE);
    due("three of three", x.may(three, 10, 1), 0);
    x.rule(0, 0);
    due("without rest three hours hold three", x.may(four, 10, 1), 0);
  }

  private static void bunkersAreRest() {
    HarbourTugs x = new HarbourTugs();
    x.tug(0, 60, 1, 48, 48, 2, 0);
    x.lay(shipAtHome(x, 0, 2), 10, 1);
    x.bunker(0, 12);
    x.bunker(0, 13);
    due("bunkers are no work", x.may(shipAtHome(x, 0, 2), 14, 1), 0);
  }

  // ---- fuel, check 6

  private static void fuels() {
    part = "10 bunker";
    HarbourTugs x = new HarbourTugs();
    x.tug(0, 60, 1, 0, 20, 12, 0);
    x.tug(0, 60, 1, 20, 20, 12, 0);
    x.tug(0, 60, 1, 8, 20, 12, 0);
    x.tug(0, 60, 1, 9, 20, 12, 0);
    x.tug(0, 60, 1, 0, 1, 12, 0);
    due("0 and 12", x.bunker(0, 0), 12);
    due("12 and 12 in a tank of 20", x.bunker(0, 47), 20);
    due("a full tank", x.bunker(1, 5), 20);
    due("8 and 12", x.bunker(2, 5), 20);
    due("9 and 12", x.bunker(3, 5), 20);
    due("a tank of 1", x.bunker(4, 5), 1);
    part = "11 fuel";
    due("at first", x.fuel(0, -1), 0);
    due("behind hour 0", x.fuel(0, 0), 12);
    due("behind hour 46", x.fuel(0, 46), 12);
    due("behind hour 47", x.fuel(0, 47), 20);
    due("ahead of bunkers", x.fuel(3, 4), 9);
    due("behind them", x.fuel(3, 5), 20);
    fuelThatIsEnough();
    fuelGoesByHours();
  }

  private static void fuelThatIsEnough() {
    part = "12 may 6";
    HarbourTugs x = new HarbourTugs();
    x.tug(0, 60, 1, 3, 48, 12, 0);
    int three = shipAtHome(x, 0, 3);
    int four = shipAtHome(x, 0, 4);
    due("to 0", x.may(three, 0, 1), 0);
    due("below 0", x.may(four, 0, 1), 6);
    due("below 0 in hour 47", x.may(four, 44, 1), 6);
    x.bunker(0, 20);
    due("bunkers behind it do not help", x.may(four, 16, 1), 6);
    due("bunkers ahead of it do", x.may(four, 21, 1), 0);
    due("laid ahead of bunkers", x.lay(three, 10, 1), 0);
    due("nothing is left", x.fuel(0, 19), 0);
    int one = shipAtHome(x, 0, 1);
    due("ahead of the laid one", x.may(one, 5, 1), 6);
    due("between it and bunkers", x.may(one, 19, 1), 6);
    due("behind bunkers", x.may(one, 21, 1), 0);
    due("off", x.off(three), 10);
    due("again", x.may(one, 5, 1), 0);
  }

  /** A tank that is full by bunkers loses nothing by work ahead of them. */
  private static void fuelGoesByHours() {
    part = "11 fuel";
    HarbourTugs x = new HarbourTugs();
    x.tug(0, 60, 1, 10, 14, 12, 0);
    due("10 and 12 in a tank of 14", x.bunker(0, 20), 14);
    x.lay(shipAtHome(x, 0, 4), 2, 1);
    due("behind work", x.fuel(0, 5), 6);
    due("full again", x.fuel(0, 20), 14);
    x.lay(shipAtHome(x, 0, 4), 30, 1);
    due("behind its first hour", x.fuel(0, 30), 13);
    due("behind all", x.fuel(0, 47), 10);
    due("and bunkers in the last hour", x.bunker(0, 47), 14);
  }

  // ---- ways, check 11

  private static void ways() {
    part = "6 way";
    for (int speed = 1; speed <= 30; speed++) {
      HarbourTugs x = new HarbourTugs();
      x.rule(2, speed);
      for (int far = 0; far <= 60; far++) {
        x.berth(3, 0, far);
        int want = (int) Math.ceil((double) far / speed);
        due(far + " by " + speed, x.way(0, 3), want);
        due(far + " by " + speed + " from there", x.way(3, 0), want);
      }
    }
    waysFromHome();
    waysBetweenJobs();
  }

  private static void waysFromHome() {
    part = "12 may 11";
    HarbourTugs x = new HarbourTugs();
    x.tug(0, 60, 1, 48, 48, 12, 3);
    x.tug(0, 60, 1, 48, 48, 12, 0);
    int s = x.ship(10, 0, 0, 1, 1, 0, 5);
    due("3 hours, by 2", x.may(s, 2, 1), 11);
    due("3 hours, by 3", x.may(s, 3, 1), 0);
    due("no way, in hour 0", x.may(s, 0, 2), 0);
    due("one of the set is not there", x.may(s, 2, 3), 11);
    due("both are there", x.may(s, 3, 3), 0);
    x.rule(2, 1);
    x.berth(0, 0, 60);
    due("30 hours, by 29", x.may(s, 29, 1), 11);
    due("30 hours, by 30", x.may(s, 30, 1), 0);
    x.berth(3, 0, 0);
    due("60 hours", x.best(s, 1), 2);
    due("60 hours: never", x.may(s, 47, 1), 11);
    due("where it is at first", x.about(0, 7), 3);
  }

  /** From berth 2 to 4 at hours 10, 11 and from 1 to 1 at hour 30: between, ahead and behind. */
  private static void waysBetweenJobs() {
    HarbourTugs x = withTugs(1);
    due("laid", x.lay(x.ship(10, 0, 0, 2, 1, 2, 4), 10, 1), 0);
    due("laid", x.lay(x.ship(10, 0, 0, 1, 1, 1, 1), 30, 1), 0);
    int s = x.ship(10, 0, 0, 2, 1, 3, 0);
    due("from 4 to 3 takes an hour", x.may(s, 12, 1), 11);
    due("it is there", x.may(s, 13, 1), 0);
    due("from 0 to 1, by 30", x.may(s, 27, 1), 0);
    due("from 0 to 1, too late", x.may(s, 28, 1), 11);
    due("from 1 to 3 takes two", x.may(s, 32, 1), 11);
    due("it is there", x.may(s, 33, 1), 0);
    due("from 0 to 2, by 10", x.may(s, 6, 1), 0);
    due("from 0 to 2, too late", x.may(s, 7, 1), 11);
    due("from home to 3", x.may(s, 2, 1), 11);
    due("from home to 3", x.may(s, 3, 1), 0);
    part = "29 about 7";
    due("behind all its jobs", x.about(0, 7), 1);
    x.off(1);
    due("behind the other", x.about(0, 7), 4);
    x.off(0);
    due("home", x.about(0, 7), 0);
  }

  // ---- basins, check 9

  private static void basins() {
    part = "12 may 9";
    for (int bits = 0; bits < 16; bits++) {
      HarbourTugs x = withTugs(2);
      x.rule(2, 30);
      for (int b = 0; b < 4; b++) {
        x.berth(b, 1, bits >> b & 1);
        x.berth(b, 0, 0);
      }
      int one = x.ship(10, 0, 0, 2, 1, 0, 1);
      int other = x.ship(10, 0, 0, 2, 1, 2, 3);
      int from = bits & 1, to = bits >> 1 & 1, from2 = bits >> 2 & 1, to2 = bits >> 3 & 1;
      boolean common = from == from2 || from == to2 || to == from2 || to == to2;
      due("alone", x.may(other, 10, 2), 0);
      due("laid", x.lay(one, 10, 1), 0);
      due("the same hours, basins " + bits, x.may(other, 10, 2), common ? 9 : 0);
      due("its first hour", x.may(other, 9, 2), common ? 9 : 0);
      due("its last hour", x.may(other, 11, 2), common ? 9 : 0);
      due("ahead", x.may(other, 8, 2), 0);
      due("behind", x.may(other, 12, 2), 0);
      x.off(one);
      due("off", x.may(other, 10, 2), 0);
    }
  }

  // ---- one kept for fire, check 10

  private static void fire() {
    part = "12 may 10";
    HarbourTugs x = withTugs(1);
    int s = shipAtHome(x, 0, 2);
    x.rule(1, 1);
    due("no other tug", x.may(s, 5, 1), 10);
    due("never", x.best(s, 0), NONE);
    x.tug(1, 1, 0, 2, 2, 12, 5);
    due("any other, weak and far", x.may(s, 4, 1), 0);
    due("none but the set", x.may(s, 4, 3), 10);
    x.breaks(1, 7);
    due("broken behind its hours", x.may(s, 5, 1), 0);
    due("broken in its last hour", x.may(s, 6, 1), 10);
    x.mend(1);
    due("whole", x.may(s, 6, 1), 0);
    x.bunker(1, 5);
    due("it takes bunkers", x.may(s, 5, 1), 0);
    x.rule(1, 0);
    due("no fire", x.may(s, 10, 3), 0);
    fireHourByHour();
  }

  /** One other has work in the first hour, one in the second: in each hour there is one. */
  private static void fireHourByHour() {
    HarbourTugs x = withTugs(3);
    x.berth(4, 1, 1);
    x.berth(4, 0, 0);
    x.lay(x.ship(10, 0, 0, 1, 1, 4, 4), 5, 2);
    x.lay(x.ship(10, 0, 0, 1, 1, 4, 4), 6, 4);
    int s = shipAtHome(x, 0, 2);
    x.rule(1, 1);
    due("one in each hour", x.may(s, 5, 1), 0);
    x.breaks(1, 6);
    due("none in its last hour", x.may(s, 5, 1), 10);
    due("ahead of both", x.may(s, 3, 1), 0);
    HarbourTugs y = withTugs(6);
    int t = shipAtHome(y, 0, 2);
    y.rule(1, 1);
    for (int other = 0; other < 6; other++) {
      due("tug " + other + " is kept", y.may(t, 5, 63 & ~(1 << other)), 0);
    }
    due("none is kept", y.may(t, 5, 63), 10);
  }

  // ---- best

  private static void bests() {
    part = "15 best";
    for (int s = 0; s < 5; s++) {
      bestIsTheFirst("busy, ship " + s, s, EdgeTest::busy);
    }
    bestIsTheFirst("full, ship 5", 5, EdgeTest::full);
    bestIsTheFirst("full, ship 7", 7, EdgeTest::full);
    bestIsTheFirst("one ship", 0, () -> withPulls(20, 10, 10, 15, 25, 20));
    bestOfEquals();
  }

  /** As may() tells it: no hour ahead of it, no set ahead of its own, has a job that may be. */
  private static void bestIsTheFirst(String what, int ship, Start start) {
    HarbourTugs x = start.make();
    if (x.job(ship, 0) != NONE) {
      due(what, x.best(ship, 0), NO);
      return;
    }
    List<int[]> sets = new ArrayList<>();
    for (int set = 1; set < 1 << x.count(0); set++) {
      int pull = 0;
      for (int t = 0; t < 6; t++) {
        pull += (set >> t & 1) * Math.max(0, x.about(t, 1));
      }
      sets.add(new int[] {Integer.bitCount(set), pull, set});
    }
    sets.sort(Arrays::compare);
    int hour = NONE, set = NONE;
    for (int h = 0; h < 48 && hour == NONE; h++) {
      HarbourTugs y = start.make();
      for (int i = 0; i < sets.size() && hour == NONE; i++) {
        if (y.may(ship, h, sets.get(i)[2]) == 0) {
          hour = h;
          set = sets.get(i)[2];
        }
      }
    }
    due(what + ": hour", x.best(ship, 0), hour);
    due(what + ": set", x.best(ship, 1), set);
  }

  /** Tugs of such pulls, the last astern, too, and a ship of size 30. */
  private static HarbourTugs withPulls(int... pulls) {
    HarbourTugs x = new HarbourTugs();
    for (int t = 0; t < pulls.length; t++) {
      x.tug(0, pulls[t], t == pulls.length - 1 ? 1 : 0, 48, 48, 12, 0);
    }
    x.ship(30, 0, 0, 1, 1, 0, 0);
    return x;
  }

  private static void bestOfEquals() {
    due("10 and 20, lower bits", withPulls(20, 10, 15, 10, 20).best(0, 1), 2 | 16);
    due("10 and 20 is less than 15 and 20", withPulls(15, 10, 20).best(0, 1), 2 | 4);
    due("two of 10 with 20: lower bits", withPulls(10, 10, 20).best(0, 1), 1 | 4);
    due("two goes before three of less", withPulls(5, 5, 40, 20).best(0, 1), 4 | 8);
    due("one astern of more pull goes before two", withPulls(10, 10, 60).best(0, 1), 4);
    due("all are needed", withPulls(5, 5, 5, 5, 5, 5).best(0, 1), 63);
    due("all are not enough", withPulls(5, 5, 5, 5, 5, 4).best(0, 1), NONE);
    due("the set of none", withPulls(5, 5, 5, 5, 5, 4).best(0, 0), NONE);
  }

  // ---- orders and their plans

  private static void ordersAndPlans() {
    part = "17 order";
    orderOfNumbers();
    orderOfEquals();
    orderOfSome();
    part = "18 layOrder";
    planInPlaceOfAll();
    planAroundTroubles();
  }

  private static void orderOfNumbers() {
    HarbourTugs x = withTugs(1);
    for (int n = 1; n <= 5; n++) {
      due("n above ships", x.order(n, -1), BAD);
      due("n above ships", x.layOrder(n), BAD);
      due("n above ships", x.mended(n, 0), BAD);
      due("n above ships", x.layMended(n), BAD);
      x.ship(10, 0, 0, 1, n, 0, 0);
      due("n as many as ships", x.order(n, -1), n == 5 ? BAD : queueWaits(n));
    }
    for (int n = 1; n <= 4; n++) {
      for (int i = 0; i <= 5; i++) {
        due("the heavier first: " + i + " of " + n, x.order(n, i), i < n ? n - 1 - i : NONE);
      }
      due("far behind", x.order(n, MAX), NONE);
    }
    due("in one basin none is laid by it", x.count(2) + x.count(4), 0);
  }

  /** Ships of weights 1 to n, an hour each, the heavier first. */
  private static int queueWaits(int n) {
    int sum = 0;
    for (int i = 0; i < n; i++) {
      sum += (n - i) * i;
    }
    return sum;
  }

  /** Nothing is in another's way, or all is alike: the lower first. */
  private static void orderOfEquals() {
    HarbourTugs x = withTugs(1);
    for (int s = 0; s < 4; s++) {
      x.ship(10, 0, 10 - s, 1, 3, 0, 0);
    }
    due("no waiting", x.order(4, -1), 0);
    HarbourTugs y = withTugs(1);
    for (int s = 0; s < 4; s++) {
      y.ship(10, 0, 5, 1, 3, 0, 0);
    }
    due("3 times 0 to 3", y.order(4, -1), 18);
    HarbourTugs z = withTugs(1);
    for (int s = 0; s < 4; s++) {
      z.ship(10, 9, 5 * s, 1, s + 1, 0, 0);
    }
    due("none has a job: 60 less ready", z.order(4, -1), 60 + 2 * 55 + 3 * 50 + 4 * 45);
    for (int i = 0; i < 4; i++) {
      due("no waiting", x.order(4, i), i);
      due("all alike", y.order(4, i), i);
      due("none has a job", z.order(4, i), i);
    }
  }

  /** A ship that is not of them would bring the tug, which is far away, to the first at once. */
  private static void orderOfSome() {
    HarbourTugs x = new HarbourTugs();
    x.tug(0, 60, 1, 48, 48, 12, 5);
    x.ship(10, 0, 0, 1, 1, 0, 0);
    x.ship(10, 9, 0, 1, 1, 0, 0);
    x.ship(10, 0, 0, 1, 1, 5, 0);
    due("5 hours of way, one without a job", x.order(2, -1), 65);
    due("the first", x.order(2, 0), 0);
    due("the other", x.order(2, 1), 1);
    due("brought there by ship 2", x.order(3, -1), 61);
    due("the one without a job is lowest", x.order(3, 0), 1);
    due("then ship 2", x.order(3, 1), 2);
    due("then the first", x.order(3, 2), 0);
  }

  private static void planInPlaceOfAll() {
    HarbourTugs x = withTugs(2);
    for (int s = 0; s < 6; s++) {
      shipAtHome(x, 0, 2);
    }
    for (int s = 0; s < 6; s++) {
      due("laid", x.lay(s, 10 + 4 * s, 1 + s % 2), 0);
    }
    x.bunker(0, 1);
    x.storm(31, 31);
    due("an hour of a job taken off stays", x.work(1, 0) >> 30, 1);
    due("one of one", x.layOrder(1), 1);
    due("one job", x.count(2), 1);
    due("not in hour 1 by tug 0", x.job(0, 1), 2);
    due("at once", x.job(0, 0), 0);
    due("no work of old", x.work(0, 0), 0);
    due("no work of old", x.work(1, 0), 3);
    due("bunkers stay", x.work(0, 1), 2);
    due("seven were laid ever", x.count(4), 7);
    due("one was taken off", x.count(5), 1);
    due("an hour lost", x.count(7), 1);
    due("the storm stays", x.count(3), 1);
  }

  private static void planAroundTroubles() {
    HarbourTugs x = withTugs(2);
    shipAtHome(x, 0, 2);
    shipAtHome(x, 0, 2);
    x.breaks(0, 1);
    x.storm(0, 2);
    due("both", x.layOrder(2), 2);
    due("behind the storm", x.job(0, 0), 3);
    due("by the whole one", x.job(0, 1), 2);
    due("behind the other", x.job(1, 0), 5);
    due("broken as it is", x.about(0, 6), 1);
    x.breaks(1, 0);
    due("none", x.layOrder(2), 0);
    due("no job is left", x.count(2), 0);
    due("taken off by breaking alone", x.count(5), 2);
    x.mend(0);
    x.storm(0, 45);
    due("there is room for one", x.layOrder(2), 1);
    due("60 less 0", x.order(2, -1), 46 + 60);
    due("the first", x.job(0, 0), 46);
    due("the other is left out", x.job(1, 0), NONE);
  }

  // ---- mended plans

  private static void mendedPlans() {
    part = "19 mended";
    mendedWithoutNeed();
    mendedOfMost();
    mendedByWaited();
    mendedByBits();
    mendedOfSome();
    mendedButNotOthers();
    mendedBesideOneWithout();
    mendedBehindAnother();
  }

  /** All have a job: none is taken off, however long it waits. */
  private static void mendedWithoutNeed() {
    HarbourTugs x = withTugs(1);
    for (int s = 0; s < 4; s++) {
      x.ship(10, 0, 0, 1, 20, 0, 0);
      x.lay(s, 40 + s, 1);
    }
    due("all have one", x.mended(4, 0), 4);
    due("none off", x.mended(4, 1), 0);
    due("20 times 40 to 43", x.mended(4, 2), 20 * 166);
    due("no bits", x.mended(4, 3), 0);
    due("laid as it is", x.layMended(4), 4);
    due("none is laid by it", x.count(4), 4);
    due("the first stays", x.job(0, 0), 40);
  }

  /** Two ships of deep draft for the hours that two others have: both must go. */
  private static void mendedOfMost() {
    HarbourTugs x = withTugs(1);
    x.tide(5, 9);
    x.tide(7, 9);
    x.ship(10, 0, 0, 1, 1, 0, 0);
    x.ship(10, 0, 0, 1, 1, 0, 0);
    x.ship(10, 9, 0, 1, 1, 0, 0);
    x.ship(10, 9, 0, 1, 1, 0, 0);
    x.storm(8, 47);
    x.lay(0, 5, 1);
    x.lay(1, 7, 1);
    due("one of the deep: three", x.mended(3, 0), 3);
    due("12 hours by either of both: lower bits", x.mended(3, 3), 1);
    due("all four", x.mended(4, 0), 4);
    due("two off", x.mended(4, 1), 2);
    due("both bits", x.mended(4, 3), 3);
    due("0, 1, 5, 7 hours", x.mended(4, 2), 13);
    part = "20 layMended";
    due("all four", x.layMended(4), 4);
    due("by numbers", x.job(0, 0) * 1000 + x.job(1, 0) * 100 + x.job(2, 0) * 10 + x.job(3, 0), 157);
    due("six were laid ever", x.count(4), 6);
    due("none by trouble", x.count(5), 0);
    part = "19 mended";
  }

  private static HarbourTugs withTwoInTheWay(int weight0, int weight1, int weight2) {
    HarbourTugs x = withTugs(1);
    x.tide(2, 9);
    x.tide(4, 9);
    x.ship(10, 0, 0, 1, weight0, 0, 0);
    x.ship(10, 0, 0, 1, weight1, 0, 0);
    x.ship(10, 9, 0, 1, weight2, 0, 0);
    x.storm(5, 47);
    x.lay(0, 2, 1);
    x.lay(1, 4, 1);
    return x;
  }

  private static void mendedByWaited() {
    HarbourTugs x = withTwoInTheWay(3, 1, 1);
    due("4 and 2, or 6 and 4", x.mended(3, 2), 6);
    due("ship 0", x.mended(3, 3), 1);
    HarbourTugs y = withTwoInTheWay(1, 3, 1);
    due("12 and 2, or 2 and 4", y.mended(3, 2), 6);
    due("ship 1", y.mended(3, 3), 2);
  }

  private static void mendedByBits() {
    HarbourTugs x = withTwoInTheWay(3, 2, 1);
    due("8 and 2, or 6 and 4", x.mended(3, 2), 10);
    due("as much waited: the lower bits", x.mended(3, 3), 1);
    due("all", x.layMended(3), 3);
    due("ship 0 goes first", x.job(0, 0), 0);
    due("ship 1 stays", x.job(1, 0), 4);
    due("ship 2 has its hour", x.job(2, 0), 2);
  }

  /** Of fewer ships than there are: jobs of the others stay, and are in the way. */
  private static void mendedOfSome() {
    HarbourTugs x = withTwoInTheWay(3, 2, 1);
    x.ship(10, 0, 0, 1, 9, 0, 0);
    x.lay(3, 0, 1);
    due("of two", x.mended(2, 0), 2);
    due("their waiting alone", x.mended(2, 2), 14);
    due("ship 3 has hour 0: 3, 8, 2 or 6, 2, 4", x.mended(3, 2), 12);
    due("ship 1 goes to hour 1", x.mended(3, 3), 2);
    due("ship 3 may be taken off, too, but need not", x.mended(4, 3), 2);
    due("laid", x.layMended(3), 3);
    due("ship 3 stays", x.job(3, 0), 0);
    due("four jobs", x.count(2), 4);
  }

  /** Ship 2, which is not of them, has the one hour that ship 1 could have. */
  private static void mendedButNotOthers() {
    HarbourTugs x = withTugs(1);
    x.tide(2, 9);
    x.ship(10, 0, 0, 1, 1, 0, 0);
    x.ship(10, 9, 0, 1, 1, 0, 0);
    x.ship(10, 0, 0, 1, 1, 0, 0);
    x.storm(5, 47);
    x.lay(2, 2, 1);
    due("of two: one", x.mended(2, 0), 1);
    due("none off", x.mended(2, 3), 0);
    due("0 and 60", x.mended(2, 2), 60);
    due("of three: all", x.mended(3, 0), 3);
    due("ship 2 off", x.mended(3, 3), 4);
    due("laid", x.layMended(2), 1);
    due("ship 2 stays", x.job(2, 0), 2);
  }

  /** Ship 0 can't have a job; ship 1 has the one hour that ship 2 could have. */
  private static void mendedBesideOneWithout() {
    HarbourTugs x = withTugs(1);
    x.tide(2, 8);
    x.ship(10, 9, 0, 1, 1, 0, 0);
    x.ship(10, 0, 0, 1, 1, 0, 0);
    x.ship(10, 8, 0, 1, 1, 0, 0);
    x.storm(5, 47);
    x.lay(1, 2, 1);
    due("two", x.mended(3, 0), 2);
    due("ship 1 off", x.mended(3, 3), 2);
    due("60, 0 and 2", x.mended(3, 2), 62);
  }

  /** What an earlier question was answered is forgotten. */
  private static void mendedBehindAnother() {
    HarbourTugs x = withTwoInTheWay(3, 1, 1);
    due("one off", x.mended(3, 1), 1);
    x.storm(0, 47);
    due("none", x.mended(3, 0), 0);
    due("none off", x.mended(3, 3), 0);
    due("all wait", x.mended(3, 2), 5 * 60);
    due("an order, too", x.order(3, -1), 5 * 60);
    x.calm();
    due("in fair weather: 0 at 0, 1 at 1", x.order(2, -1) + x.order(2, 0), 1);
    HarbourTugs y = withTugs(1);
    shipAtHome(y, 0, 1);
    due("no waiting", y.mended(1, 2), 0);
    y.storm(0, 47);
    due("no job, 60 hours", y.mended(1, 2), 60);
  }

  // ---- what breaks

  private static void breaking() {
    part = "21 breaks";
    breaksAtTheEdges();
    halfOfWhatItNeeds();
    breaksInManyJobs();
    eachOfMany();
    breaksTwice();
    bunkersThatGo();
  }

  /** A job at hours 10 to 13 of a strong tug and another. */
  private static HarbourTugs withJobOfTwo() {
    HarbourTugs x = withTugs(2);
    shipAtHome(x, 0, 4);
    x.lay(0, 10, 3);
    return x;
  }

  private static void breaksAtTheEdges() {
    for (int h = 0; h < 48; h++) {
      HarbourTugs x = withJobOfTwo();
      boolean off = h <= 10;
      boolean on = h > 10 && h <= 13;
      due("at " + h, x.breaks(0, h), off ? 1 : 0);
      due("the job", x.job(0, 0), off ? NONE : 10);
      due("its set", x.job(0, 1), off ? NONE : on ? 2 : 3);
      due("hours ahead", x.work(0, 0), off ? 0 : on ? (1L << h) - (1L << 10) : 15L << 10);
      due("of the other", x.work(1, 0), off ? 0 : 15L << 10);
      due("lost", x.count(6), off ? 8 : on ? 14 - h : 0);
      due("taken off", x.count(5), off ? 1 : 0);
      due("jobs", x.count(2), off ? 0 : 1);
      due("broken from", x.about(0, 6), h);
      due("the other is whole", x.about(1, 6), NONE);
    }
  }

  /** A ship of 40 with a tug of 60 that breaks at 11 and one of such a pull. */
  private static int halfLeft(int pull, int kind, int windAt, int wind) {
    HarbourTugs x = new HarbourTugs();
    x.tug(0, 60, 1, 48, 48, 12, 0);
    x.tug(0, pull, kind, 48, 48, 12, 0);
    x.ship(40, 0, 0, 3, 1, 0, 0);
    x.lay(0, 10, 3);
    x.wind(windAt, wind);
    return x.breaks(0, 11);
  }

  private static void halfOfWhatItNeeds() {
    due("half", halfLeft(20, 1, 20, 0), 0);
    due("half, none astern", halfLeft(20, 0, 20, 0), 0);
    due("less than half", halfLeft(19, 1, 20, 0), 1);
    due("wind ahead of it", halfLeft(20, 1, 10, 9), 0);
    due("wind in its hour: 48", halfLeft(24, 1, 11, 1), 0);
    due("wind in its hour: 48", halfLeft(23, 1, 11, 1), 1);
    due("wind in the last hour: 48", halfLeft(24, 1, 12, 1), 0);
    due("wind in the last hour: 48", halfLeft(23, 1, 12, 1), 1);
    due("wind behind the last", halfLeft(20, 1, 13, 9), 0);
    HarbourTugs x = new HarbourTugs();
    x.tug(0, 60, 1, 48, 48, 12, 0);
    x.tug(0, 60, 1, 48, 48, 12, 0);
    x.ship(1, 0, 0, 3, 1, 0, 0);
    x.lay(0, 10, 1);
    due("none is left of its set", x.breaks(0, 11), 1);
    HarbourTugs y = new HarbourTugs();
    y.tug(0, 60, 1, 48, 48, 12, 0);
    y.tug(0, 8, 0, 48, 48, 12, 0);
    y.tug(0, 8, 0, 48, 48, 12, 0);
    y.ship(33, 0, 0, 3, 1, 0, 0);
    y.lay(0, 10, 7);
    due("8 and 8 are 32 of 33", y.breaks(0, 11), 1);
    due("two of them lost 2, the broken 2", y.count(6), 6);
    due("an hour stays of each", y.work(1, 0) + y.work(2, 0), 2L << 10);
  }

  private static void breaksInManyJobs() {
    HarbourTugs x = withTugs(2);
    for (int s = 0; s < 4; s++) {
      shipAtHome(x, 0, 2);
    }
    x.lay(0, 2, 3);
    x.lay(1, 5, 3);
    x.lay(2, 8, 1);
    x.lay(3, 12, 2);
    due("one is done, one goes on, one is taken off", x.breaks(0, 6), 1);
    due("done", x.job(0, 1), 3);
    due("goes on", x.job(1, 1), 2);
    due("taken off", x.job(2, 0), NONE);
    due("not with it", x.job(3, 1), 2);
    due("one hour, two hours", x.count(6), 3);
    due("what it worked", x.work(0, 0), 3L << 2 | 1L << 5);
    due("what the other works", x.work(1, 0), 3L << 2 | 3L << 5 | 3L << 12);
    due("where it is", x.about(0, 7), 0);
  }

  /** Two jobs of all six tugs; one tug after the other breaks in the first one's second hour. */
  private static void eachOfMany() {
    HarbourTugs x = withTugs(6);
    int one = shipAtHome(x, 0, 4);
    int other = shipAtHome(x, 0, 4);
    x.lay(one, 10, 63);
    x.lay(other, 20, 63);
    for (int t = 0; t < 5; t++) {
      due("the second is ahead of it", x.breaks(t, 11), 1 - Math.min(t, 1));
      due("the first goes on", x.job(one, 1), 63 & ~((2 << t) - 1));
      due("an hour is work", x.work(t, 0), 1L << 10);
      due("24 of the second, 3 of each", x.count(6), 24 + 3 * (t + 1));
      due("where it is", x.about(t, 7), 0);
    }
    due("the last of all", x.breaks(5, 11), 1);
    due("24 and 18", x.count(6), 42);
    due("two taken off", x.count(5), 2);
  }

  private static void breaksTwice() {
    HarbourTugs x = withJobOfTwo();
    due("late", x.breaks(0, 47), 0);
    due("as late", x.breaks(0, 47), NO);
    due("earlier", x.breaks(0, 12), 0);
    due("from then on", x.about(0, 6), 12);
    due("later is no break", x.breaks(0, 13), NO);
    due("the other, too", x.breaks(1, 13), 1);
    due("2 and 1", x.count(6), 3);
    due("at first", x.breaks(0, 0), 0);
    due("from 0", x.about(0, 6), 0);
    due("worked hours stay", x.work(0, 0), 3L << 10);
    part = "22 mend";
    due("whole in all hours", x.mend(0), 1);
    due("it was", x.mend(0), 0);
    due("in its free hours", x.may(0, 12, 1), 0);
    due("not in those that it worked", x.may(0, 8, 1), 5);
    due("the other is broken still", x.may(0, 14, 2), 8);
    due("it may break again", x.breaks(0, 0), 0);
    part = "21 breaks";
  }

  private static void bunkersThatGo() {
    HarbourTugs x = new HarbourTugs();
    x.tug(0, 60, 1, 5, 48, 12, 0);
    for (int h : new int[] {0, 9, 10, 11, 47}) {
      x.bunker(0, h);
    }
    due("at 10", x.breaks(0, 10), 0);
    due("those ahead stay", x.work(0, 1), 1L << 9 | 1);
    due("fuel by them", x.fuel(0, 47), 29);
    due("ahead of it there is more", x.bunker(0, 8), 41);
    due("at 0", x.breaks(0, 0), 0);
    due("none stays", x.work(0, 1), 0);
    due("fuel at first", x.fuel(0, 47), 5);
    x.mend(0);
    due("they are gone", x.work(0, 1), 0);
    due("no hour is lost by that", x.count(6), 0);
  }

  // ---- storms

  private static void storms() {
    part = "23 storm";
    for (int a = 8; a <= 16; a++) {
      for (int b = a; b <= 16; b++) {
        HarbourTugs x = withJobOfTwo();
        boolean off = a <= 13 && b >= 10;
        int first = Math.max(a, 10);
        due(a + " to " + b, x.storm(a, b), off ? 1 : 0);
        due("hours of storm", x.count(3), b - a + 1);
        due("the job", x.job(0, 0), off ? NONE : 10);
        due("hours ahead stay", x.work(0, 0), off ? (1L << first) - (1L << 10) : 15L << 10);
        due("of both", x.work(1, 0), x.work(0, 0));
        due("lost", x.count(7), off ? 2 * (14 - first) : 0);
        due("taken off", x.count(5), off ? 1 : 0);
        due("none by breaking", x.count(6), 0);
      }
    }
    due("b ahead of a", withJobOfTwo().storm(13, 12), BAD);
    due("from the first hour to the last", withJobOfTwo().storm(0, 47), 1);
    stormsTogether();
  }

  private static void stormsTogether() {
    HarbourTugs x = withTugs(2);
    for (int s = 0; s < 3; s++) {
      shipAtHome(x, 0, 2);
    }
    x.lay(0, 4, 1);
    x.lay(1, 6, 2);
    x.lay(2, 8, 3);
    x.bunker(0, 20);
    due("the last hour of one, the first of another", x.storm(5, 6), 2);
    due("hour 4 stays", x.work(0, 0), 1L << 4 | 3L << 8);
    due("none of the other", x.work(1, 0), 3L << 8);
    due("1 and 2", x.count(7), 3);
    due("over itself", x.storm(6, 7), 0);
    due("5 to 7", x.count(3), 3);
    due("apart", x.storm(47, 47), 0);
    due("four", x.count(3), 4);
    due("over bunkers", x.storm(20, 20), 0);
    due("they stay", x.work(0, 1), 1L << 20);
    part = "24 calm";
    due("five", x.calm(), 5);
    due("none", x.count(3), 0);
    due("none any more", x.calm(), 0);
    due("what was taken off stays so", x.job(0, 0), NONE);
    due("hours worked stay", x.may(0, 3, 1), 5);
    due("it may be laid", x.may(0, 5, 1), 0);
  }

  // ---- prices

  private static void prices() {
    part = "26 price";
    HarbourTugs x = withTugs(3);
    x.ship(30, 0, 4, 2, 1, 0, 0);
    x.lay(0, 4, 3);
    due("no rules", x.price(0), 0);
    x.priceRule(0, 0, 1, 1000);
    due("hundredths of nothing", x.price(0), 0);
    x.priceRule(0, 0, 0, 99);
    due("told behind the job was laid", x.price(0), 99);
    x.priceRule(0, 0, 1, 1);
    due("0.99 cut", x.price(0), 99);
    x.priceRule(0, 0, 1, 2);
    due("1.98 cut", x.price(0), 100);
    x.priceRule(6, 1, 0, 1000);
    due("it did not wait", x.price(0), 100);
    x.priceRule(5, 121, 0, 1000);
    due("120 of pull", x.price(0), 100);
    x.priceRule(5, 120, 0, -250);
    due("below 0", x.price(0), -150);
    x.priceRule(0, 400, 1, -1);
    due("1.5 cut", x.price(0), -149);
    x.priceRule(2, 1, 0, 1000);
    x.wind(5, 9);
    due("wind in its second hour", x.price(0), -149);
    x.wind(4, 1);
    due("wind in its first hour", x.price(0), 851);
    x.breaks(1, 5);
    due("it goes on with 60 alone: 99 and 1000", x.price(0), 1099);
    x.off(0);
    due("off", x.price(0), NO_PRICE);
  }

  // ---- pools

  private static void pools() {
    part = "27 pool";
    HarbourTugs x = new HarbourTugs();
    x.tug(0, 1, 1, 48, 48, 12, 0);
    for (int t = 1; t < 6; t++) {
      x.tug(1, 60, 1, 48, 48, 12, 0);
    }
    for (int s = 0; s < 8; s++) {
      x.ship(50, 0, 0, 4, 1, 0, 0);
      due("laid", x.lay(s, 6 * s, 63), 0);
    }
    due("300 of 301", x.pool(1, 1000000), 996677);
    due("what is left", x.pool(0, 1000000), 3323);
    due("of 1", x.pool(1, 1), 0);
    due("of 1", x.pool(0, 1), 1);
    HarbourTugs y = withTugs(2);
    shipAtHome(y, 0, 4);
    y.lay(0, 10, 2);
    y.storm(12, 12);
    due("hours of a job taken off that were worked", y.pool(1, 7), 7);
    HarbourTugs z = withTugs(2);
    z.bunker(1, 3);
    due("bunkers are no work", z.pool(1, 7), 0);
    HarbourTugs least = new HarbourTugs();
    least.tug(1, 1, 1, 1, 1, 1, 0);
    least.ship(1, 0, 0, 1, 1, 0, 0);
    least.lay(0, 0, 1);
    due("an hour of a pull of 1", least.pool(1, 1000000), 1000000);
    due("nothing is left", least.pool(0, 1000000), 0);
  }

  // ---- kept states

  private static void keeping() {
    part = "30 keep";
    HarbourTugs x = new HarbourTugs();
    for (int i = 1; i <= 3; i++) {
      x.tug(0, 10 * i, 1, 48, 48, 12, 0);
      due("how many are kept", x.keep(), i);
    }
    due("full", x.keep(), FULL);
    x.tug(0, 60, 1, 48, 48, 12, 0);
    part = "31 back";
    for (int i = 2; i >= 0; i--) {
      due("how many are left", x.back(), i);
      due("tugs", x.count(0), i + 1);
      due("one that came since", x.about(i + 1, 1), BAD_ABOUT);
      due("the last of them", x.about(i, 1), 10 * i + 10);
      due("left", x.count(9), i);
    }
    due("none is left", x.back(), NO);
    due("a tug", x.count(0), 1);
    due("room again", x.keep(), 1);
    due("a tug that comes now", x.tug(1, 7, 0, 3, 4, 5, 2), 1);
    due("its own pull", x.about(1, 1), 7);
    keptIsAllThatIs();
    notKept();
  }

  /** Behind keep() and back() all is as it was, whatever was done between. */
  private static void keptIsAllThatIs() {
    List<Long> was = everything(busy());
    HarbourTugs x = busy();
    x.keep();
    x.tug(0, 9, 1, 9, 9, 9, 3);
    x.ship(9, 0, 0, 1, 1, 3, 3);
    x.off(0);
    x.lay(2, 20, 4);
    x.bunker(1, 30);
    x.breaks(2, 12);
    x.mend(3);
    x.storm(9, 9);
    x.calm();
    x.layOrder(4);
    x.layMended(4);
    for (int h = 0; h < 12; h++) {
      x.tide(h, 9);
    }
    for (int h = 0; h < 48; h++) {
      x.wind(h, 1);
    }
    x.rule(0, 5);
    x.rule(1, 1);
    x.rule(2, 29);
    due("one is left", x.back(), 1);
    so("all is as it was", everything(x).equals(was));
  }

  private static void notKept() {
    HarbourTugs x = withTugs(1);
    x.ship(10, 0, 0, 1, 1, 0, 1);
    x.priceRule(0, 0, 0, 10);
    x.lay(0, 0, 1);
    x.keep();
    x.off(0);
    x.berth(1, 0, 59);
    x.berth(1, 1, 1);
    x.priceRule(0, 0, 0, 5);
    x.back();
    due("the job is back", x.job(0, 0), 0);
    due("with the rules of now", x.price(0), 15);
    due("the berth's place of now", x.way(0, 1), 6);
    due("the berth is in use again", x.berth(1, 1, 0), NO);
    due("where it is", x.about(0, 7), 1);
    x.off(0);
    due("basin of now", x.berth(1, 1, 0), 1);
    due("rules", x.count(8), 2);
  }

  // ---- 512 calls

  private static void manyCalls() {
    part = "many calls";
    HarbourTugs x = withTugs(1);
    shipAtHome(x, 0, 1);
    for (int i = 1; i <= 255; i++) {
      due("laid", x.lay(0, i % 48, 1), 0);
      due("off", x.off(0), i % 48);
    }
    due("the 513th", x.count(4), 255);
    HarbourTugs y = withTugs(6);
    for (int s = 0; s < 8; s++) {
      shipAtHome(y, 0, 4);
    }
    for (int i = 0; i < 249; i++) {
      due("kept", y.keep(), 1);
      due("back", y.back(), 0);
    }
    due("ships", y.count(1), 8);
  }
}
