import java.util.ArrayList;
import java.util.Arrays;
import java.util.List;
import java.util.Random;
import java.util.TreeSet;

/** Random runs of calls: the class against a slow model that follows the document word by word. */
public final class ModelTest {
  private static final int BAD = -1, NO = -2, FULL = -3, NONE = -4;

  static final class Job {
    int hour;
    boolean goneOn;
    TreeSet<Integer> set = new TreeSet<>();

    Job copy() {
      Job j = new Job();
      j.hour = hour;
      j.goneOn = goneOn;
      j.set.addAll(set);
      return j;
    }
  }

  static final class T {
    int firm, pull, kind, fuel, tank, crew, home;
    int broken = -1;
    boolean[] work = new boolean[48];
    boolean[] bunkers = new boolean[48];

    T copy() {
      T t = new T();
      t.firm = firm;
      t.pull = pull;
      t.kind = kind;
      t.fuel = fuel;
      t.tank = tank;
      t.crew = crew;
      t.home = home;
      t.broken = broken;
      t.work = work.clone();
      t.bunkers = bunkers.clone();
      return t;
    }

    boolean brokenIn(int h) {
      return broken >= 0 && h >= broken;
    }

    int[] fuels(boolean[] w) {
      int[] behind = new int[48];
      int f = fuel;
      for (int h = 0; h < 48; h++) {
        if (w[h]) {
          f -= 1;
        }
        if (bunkers[h]) {
          f = Math.min(f + 12, tank);
        }
        behind[h] = f;
      }
      return behind;
    }

    int worked() {
      int n = 0;
      for (boolean b : work) {
        n += b ? 1 : 0;
      }
      return n;
    }
  }

  static final class S {
    int size, draft, ready, length, weight, from, to;
    Job job;

    S copy() {
      S s = new S();
      s.size = size;
      s.draft = draft;
      s.ready = ready;
      s.length = length;
      s.weight = weight;
      s.from = from;
      s.to = to;
      s.job = job == null ? null : job.copy();
      return s;
    }

    int last() {
      return job.hour + length - 1;
    }
  }

  /** What keep() keeps. */
  static final class State {
    int[] tide = new int[12];
    int[] wind = new int[48];
    int[] rule = {2, 0, 10};
    boolean[] storm = new boolean[48];
    List<T> tugs = new ArrayList<>();
    List<S> ships = new ArrayList<>();
    int[] book = new int[4];

    State() {
      Arrays.fill(tide, 5);
    }

    State copy() {
      State s = new State();
      s.tide = tide.clone();
      s.wind = wind.clone();
      s.rule = rule.clone();
      s.storm = storm.clone();
      for (T t : tugs) {
        s.tugs.add(t.copy());
      }
      for (S x : ships) {
        s.ships.add(x.copy());
      }
      s.book = book.clone();
      return s;
    }
  }

  static final class Model {
    State st = new State();
    int[] place = {0, 10, 20, 30, 40, 50};
    int[] basin = new int[6];
    List<int[]> rules = new ArrayList<>();
    List<State> kept = new ArrayList<>();

    boolean in(int v, int a, int b) {
      return a <= v && v <= b;
    }

    boolean isTug(int t) {
      return in(t, 0, st.tugs.size() - 1);
    }

    boolean isShip(int s) {
      return in(s, 0, st.ships.size() - 1);
    }

    boolean isSet(int set) {
      return set > 0 && set < (1 << st.tugs.size());
    }

    int tide(int hour, int v) {
      if (!in(hour, 0, 11) || !in(v, 0, 9)) {
        return BAD;
      }
      int was = st.tide[hour];
      st.tide[hour] = v;
      return was;
    }

    int wind(int hour, int v) {
      if (!in(hour, 0, 47) || !in(v, 0, 9)) {
        return BAD;
      }
      int was = st.wind[hour];
      st.wind[hour] = v;
      return was;
    }

    int rule(int what, int v) {
      int[] least = {0, 0, 1};
      int[] most = {6, 1, 30};
      if (!in(what, 0, 2) || !in(v, least[what], most[what])) {
        return BAD;
      }
      int was = st.rule[what];
      st.rule[what] = v;
      return was;
    }

    int berth(int b, int what, int v) {
      if (!in(b, 0, 5) || !in(what, 0, 1) || !in(v, 0, what == 0 ? 60 : 1)) {
        return BAD;
      }
      for (S s : st.ships) {
        if (s.job != null && (s.from == b || s.to == b)) {
          return NO;
        }
      }
      int[] a = what == 0 ? place : basin;
      int was = a[b];
      a[b] = v;
      return was;
    }

    int hours(int from, int to) {
      int far = Math.abs(place[from] - place[to]);
      int h = 0;
      while (h * st.rule[2] < far) {
        h++;
      }
      return h;
    }

    int way(int from, int to) {
      return in(from, 0, 5) && in(to, 0, 5) ? hours(from, to) : BAD;
    }

    int tug(int firm, int pull, int kind, int fuel, int tank, int crew, int home) {
      if (!in(firm, 0, 1) || !in(pull, 1, 60) || !in(kind, 0, 1) || !in(tank, 1, 48)
          || !in(fuel, 0, tank) || !in(crew, 1, 12) || !in(home, 0, 5)) {
        return BAD;
      }
      if (st.tugs.size() == 6) {
        return FULL;
      }
      T t = new T();
      t.firm = firm;
      t.pull = pull;
      t.kind = kind;
      t.fuel = fuel;
      t.tank = tank;
      t.crew = crew;
      t.home = home;
      st.tugs.add(t);
      return st.tugs.size() - 1;
    }

    int ship(int size, int draft, int ready, int length, int weight, int from, int to) {
      if (!in(size, 1, 50) || !in(draft, 0, 9) || !in(ready, 0, 47) || !in(length, 1, 4)
          || !in(weight, 1, 20) || !in(from, 0, 5) || !in(to, 0, 5)) {
        return BAD;
      }
      if (st.ships.size() == 8) {
        return FULL;
      }
      S s = new S();
      s.size = size;
      s.draft = draft;
      s.ready = ready;
      s.length = length;
      s.weight = weight;
      s.from = from;
      s.to = to;
      st.ships.add(s);
      return st.ships.size() - 1;
    }

    int need(State x, S s, int h) {
      return s.size + (int) Math.floor(s.size * x.wind[h] / 5.0);
    }

    int needs(int ship, int hour) {
      return isShip(ship) && in(hour, 0, 47) ? need(st, st.ships.get(ship), hour) : BAD;
    }

    int bunker(int tug, int hour) {
      if (!isTug(tug) || !in(hour, 0, 47)) {
        return BAD;
      }
      T t = st.tugs.get(tug);
      if (t.work[hour] || t.bunkers[hour] || t.brokenIn(hour) || st.storm[hour]) {
        return NO;
      }
      t.bunkers[hour] = true;
      return t.fuels(t.work)[47];
    }

    int fuel(int tug, int hour) {
      if (!isTug(tug) || !in(hour, -1, 47)) {
        return BAD;
      }
      T t = st.tugs.get(tug);
      return hour == -1 ? t.fuel : t.fuels(t.work)[hour];
    }

    static TreeSet<Integer> bits(int set) {
      TreeSet<Integer> all = new TreeSet<>();
      for (int i = 0; i < 31; i++) {
        if ((set >> i & 1) == 1) {
          all.add(i);
        }
      }
      return all;
    }

    static int number(TreeSet<Integer> set) {
      int n = 0;
      for (int i : set) {
        n += 1 << i;
      }
      return n;
    }

    int pull(State x, TreeSet<Integer> set) {
      int sum = 0;
      for (int i : set) {
        sum += x.tugs.get(i).pull;
      }
      return sum;
    }

    int fails(State x, int ship, int h, TreeSet<Integer> set) {
      S s = x.ships.get(ship);
      int last = h + s.length - 1;
      if (h < s.ready || last > 47) {
        return 1;
      }
      for (int i = h; i <= last; i++) {
        if (x.tide[i % 12] < s.draft) {
          return 2;
        }
      }
      for (int i = h; i <= last; i++) {
        if (pull(x, set) < need(x, s, i)) {
          return 3;
        }
      }
      boolean astern = false;
      for (int t : set) {
        astern |= x.tugs.get(t).kind == 1;
      }
      if (!astern) {
        return 4;
      }
      for (int t : set) {
        for (int i = h; i <= last; i++) {
          if (x.tugs.get(t).work[i] || x.tugs.get(t).bunkers[i]) {
            return 5;
          }
        }
      }
      for (int t : set) {
        for (int f : x.tugs.get(t).fuels(with(x.tugs.get(t), h, last))) {
          if (f < 0) {
            return 6;
          }
        }
      }
      for (int t : set) {
        T g = x.tugs.get(t);
        boolean[] w = with(g, h, last);
        // windows may stick out over both ends: nothing is worked there
        for (int a = -20; a < 60; a++) {
          int n = 0;
          for (int i = a; i < a + g.crew + x.rule[0]; i++) {
            n += in(i, 0, 47) && w[i] ? 1 : 0;
          }
          if (n > g.crew) {
            return 7;
          }
        }
      }
      for (int t : set) {
        for (int i = h; i <= last; i++) {
          if (x.tugs.get(t).brokenIn(i)) {
            return 8;
          }
        }
      }
      for (S o : x.ships) {
        if (o.job != null && o.job.hour <= last && o.last() >= h) {
          for (int b : new int[] {o.from, o.to}) {
            if (basin[b] == basin[s.from] || basin[b] == basin[s.to]) {
              return 9;
            }
          }
        }
      }
      if (x.rule[1] == 1) {
        for (int i = h; i <= last; i++) {
          boolean some = false;
          for (int t = 0; t < x.tugs.size(); t++) {
            T g = x.tugs.get(t);
            some |= !set.contains(t) && !g.work[i] && !g.brokenIn(i);
          }
          if (!some) {
            return 10;
          }
        }
      }
      for (int t : set) {
        if (!there(x, t, s, h)) {
          return 11;
        }
      }
      for (int i = h; i <= last; i++) {
        if (x.storm[i]) {
          return 12;
        }
      }
      return 0;
    }

    boolean[] with(T t, int h, int last) {
      boolean[] w = t.work.clone();
      for (int i = h; i <= last; i++) {
        w[i] = true;
      }
      return w;
    }

    boolean there(State x, int t, S s, int h) {
      List<S> jobs = new ArrayList<>();
      for (S o : x.ships) {
        if (o.job != null && o.job.set.contains(t)) {
          jobs.add(o);
        }
      }
      jobs.sort((a, b) -> a.job.hour - b.job.hour);
      int at = x.tugs.get(t).home;
      int free = 0;
      for (S o : jobs) {
        if (o.last() < h) {
          at = o.to;
          free = o.last() + 1;
        }
      }
      if (free + hours(at, s.from) > h) {
        return false;
      }
      for (S o : jobs) {
        if (o.job.hour > h) {
          return h + s.length + hours(s.to, o.from) <= o.job.hour;
        }
      }
      return true;
    }

    void put(State x, int ship, int h, TreeSet<Integer> set) {
      S s = x.ships.get(ship);
      s.job = new Job();
      s.job.hour = h;
      s.job.set.addAll(set);
      for (int t : set) {
        for (int i = h; i <= s.last(); i++) {
          x.tugs.get(t).work[i] = true;
        }
      }
      x.book[0]++;
    }

    int may(int ship, int hour, int set) {
      if (!isShip(ship) || !in(hour, 0, 47) || !isSet(set)) {
        return BAD;
      }
      if (st.ships.get(ship).job != null) {
        return NO;
      }
      int fails = fails(st, ship, hour, bits(set));
      met(true, "may " + fails);
      return fails;
    }

    int lay(int ship, int hour, int set) {
      int may = may(ship, hour, set);
      if (may < 0) {
        return may;
      }
      if (may > 0) {
        return NO;
      }
      put(st, ship, hour, bits(set));
      return 0;
    }

    void unlay(State x, int ship) {
      S s = x.ships.get(ship);
      for (int t : s.job.set) {
        for (int i = s.job.hour; i <= s.last(); i++) {
          x.tugs.get(t).work[i] = false;
        }
      }
      s.job = null;
    }

    int off(int ship) {
      if (!isShip(ship)) {
        return BAD;
      }
      if (st.ships.get(ship).job == null) {
        return NO;
      }
      int h = st.ships.get(ship).job.hour;
      met(st.ships.get(ship).job.goneOn, "off behind going on");
      unlay(st, ship);
      return h;
    }

    /** Hour and set, or null. */
    int[] best(State x, int ship) {
      List<int[]> sets = new ArrayList<>();
      for (int set = 1; set < 1 << x.tugs.size(); set++) {
        sets.add(new int[] {Integer.bitCount(set), pull(x, bits(set)), set});
      }
      sets.sort(Arrays::compare);
      for (int h = x.ships.get(ship).ready; h < 48; h++) {
        for (int[] s : sets) {
          int f = fails(x, ship, h, bits(s[2]));
          if (f == 0) {
            return new int[] {h, s[2]};
          }
          if (f == 1 || f == 2) {
            break;
          }
        }
      }
      return null;
    }

    int best(int ship, int what) {
      if (!isShip(ship) || !in(what, 0, 1)) {
        return BAD;
      }
      if (st.ships.get(ship).job != null) {
        return NO;
      }
      int[] b = best(st, ship);
      met(b == null, "no best");
      met(b != null && Integer.bitCount(b[1]) == 2, "best of two tugs");
      met(b != null && Integer.bitCount(b[1]) == 3, "best of three tugs");
      return b == null ? NONE : b[what];
    }

    int job(int ship, int what) {
      if (!isShip(ship) || !in(what, 0, 1)) {
        return BAD;
      }
      Job j = st.ships.get(ship).job;
      return j == null ? NONE : what == 0 ? j.hour : number(j.set);
    }

    int waited(State x, int n) {
      int sum = 0;
      for (int i = 0; i < n; i++) {
        S s = x.ships.get(i);
        sum += s.weight * ((s.job == null ? 60 : s.job.hour) - s.ready);
      }
      return sum;
    }

    State plan(List<Integer> ships) {
      State x = st.copy();
      for (T t : x.tugs) {
        t.work = new boolean[48];
      }
      for (S s : x.ships) {
        s.job = null;
      }
      for (int i : ships) {
        int[] b = best(x, i);
        if (b != null) {
          put(x, i, b[0], bits(b[1]));
        }
      }
      return x;
    }

    void orders(int n, List<Integer> begun, List<List<Integer>> all) {
      if (begun.size() == n) {
        all.add(new ArrayList<>(begun));
      }
      for (int i = 0; i < n; i++) {
        if (!begun.contains(i)) {
          begun.add(i);
          orders(n, begun, all);
          begun.remove(begun.size() - 1);
        }
      }
    }

    List<Integer> bestOrder(int n) {
      List<List<Integer>> all = new ArrayList<>();
      orders(n, new ArrayList<>(), all);
      List<Integer> best = null;
      int least = Integer.MAX_VALUE;
      for (List<Integer> o : all) {
        int w = waited(plan(o), n);
        if (w < least) {
          least = w;
          best = o;
        }
      }
      for (int i = 0; i < n; i++) {
        met(best.get(i) != i, "order not by numbers");
      }
      return best;
    }

    boolean planned(int n) {
      return in(n, 1, 4) && n <= st.ships.size();
    }

    int order(int n, int i) {
      if (!planned(n)) {
        return BAD;
      }
      List<Integer> o = bestOrder(n);
      return i == -1 ? waited(plan(o), n) : in(i, 0, n - 1) ? o.get(i) : NONE;
    }

    int served(State x, int n) {
      int c = 0;
      for (int i = 0; i < n; i++) {
        c += x.ships.get(i).job != null ? 1 : 0;
      }
      return c;
    }

    int layOrder(int n) {
      if (!planned(n)) {
        return BAD;
      }
      st = plan(bestOrder(n));
      return served(st, n);
    }

    State mend(int n, int set) {
      State x = st.copy();
      for (int i : bits(set)) {
        if (i >= n || x.ships.get(i).job == null) {
          return null;
        }
        unlay(x, i);
      }
      for (int i = 0; i < n; i++) {
        if (x.ships.get(i).job == null) {
          int[] b = best(x, i);
          if (b != null) {
            put(x, i, b[0], bits(b[1]));
          }
        }
      }
      return x;
    }

    int bestMend(int n) {
      List<int[]> all = new ArrayList<>();
      for (int set = 0; set < 1 << n; set++) {
        State x = mend(n, set);
        if (x != null) {
          all.add(new int[] {-served(x, n), Integer.bitCount(set), waited(x, n), set});
        }
      }
      all.sort(Arrays::compare);
      return all.get(0)[3];
    }

    int mended(int n, int what) {
      if (!planned(n) || !in(what, 0, 3)) {
        return BAD;
      }
      int set = bestMend(n);
      met(set != 0, "jobs lifted");
      State x = mend(n, set);
      return new int[] {served(x, n), Integer.bitCount(set), waited(x, n), set}[what];
    }

    int layMended(int n) {
      if (!planned(n)) {
        return BAD;
      }
      st = mend(n, bestMend(n));
      return served(st, n);
    }

    /** Hours of WORK lost. */
    int cut(S s, int tug, int from) {
      int lost = 0;
      for (int i = Math.max(from, s.job.hour); i <= s.last(); i++) {
        st.tugs.get(tug).work[i] = false;
        lost++;
      }
      return lost;
    }

    int takeOff(S s, int from) {
      int lost = 0;
      for (int t : s.job.set) {
        lost += cut(s, t, from);
      }
      s.job = null;
      st.book[1]++;
      return lost;
    }

    int breaks(int tug, int h) {
      if (!isTug(tug) || !in(h, 0, 47)) {
        return BAD;
      }
      T t = st.tugs.get(tug);
      if (t.brokenIn(h)) {
        return NO;
      }
      int off = 0;
      for (S s : st.ships) {
        if (s.job == null || !s.job.set.contains(tug) || s.last() < h) {
          continue;
        }
        TreeSet<Integer> others = new TreeSet<>(s.job.set);
        others.remove(tug);
        boolean goes = s.job.hour < h && !others.isEmpty();
        for (int i = h; goes && i <= s.last(); i++) {
          goes = 2 * pull(st, others) >= need(st, s, i);
        }
        met(true, goes ? "goes on" : "taken off by breaking");
        if (goes) {
          s.job.goneOn = true;
          st.book[2] += cut(s, tug, h);
          s.job.set = others;
        } else {
          st.book[2] += takeOff(s, h);
          off++;
        }
      }
      t.broken = h;
      for (int i = h; i < 48; i++) {
        met(t.bunkers[i], "bunkers lost");
        t.bunkers[i] = false;
      }
      return off;
    }

    int mend(int tug) {
      if (!isTug(tug)) {
        return BAD;
      }
      T t = st.tugs.get(tug);
      int was = t.broken >= 0 ? 1 : 0;
      t.broken = -1;
      return was;
    }

    int storm(int a, int b) {
      if (!in(a, 0, 47) || !in(b, 0, 47) || a > b) {
        return BAD;
      }
      int off = 0;
      for (int h = a; h <= b; h++) {
        st.storm[h] = true;
        for (S s : st.ships) {
          if (s.job != null && s.job.hour <= h && s.last() >= h) {
            met(true, "taken off by storm");
            st.book[3] += takeOff(s, h);
            off++;
          }
        }
      }
      return off;
    }

    int stormHours() {
      int n = 0;
      for (boolean b : st.storm) {
        n += b ? 1 : 0;
      }
      return n;
    }

    int calm() {
      int n = stormHours();
      st.storm = new boolean[48];
      return n;
    }

    int priceRule(int test, int v, int kind, int amount) {
      if (!in(test, 0, 6) || !in(v, 0, 400) || !in(kind, 0, 1) || !in(amount, -1000, 100000)
          || kind == 1 && !in(amount, -100, 1000)) {
        return BAD;
      }
      if (rules.size() == 12) {
        return FULL;
      }
      rules.add(new int[] {test, v, kind, amount});
      return rules.size();
    }

    long price(int ship) {
      if (!isShip(ship)) {
        return -1000000001L;
      }
      S s = st.ships.get(ship);
      if (s.job == null) {
        return -1000000002L;
      }
      long p = 0;
      for (int[] r : rules) {
        int h = s.job.hour;
        boolean night = h < 6 || h >= 20 && h < 30 || h >= 44;
        boolean[] so = {true, s.size >= r[1], st.wind[h] >= r[1], night, s.job.set.size() >= r[1],
            pull(st, s.job.set) >= r[1], h - s.ready >= r[1]};
        if (so[r[0]]) {
          p += r[2] == 0 ? r[3] : p * r[3] / 100;
        }
      }
      met(p < 0, "price below 0");
      return p;
    }

    int pool(int firm, int amount) {
      if (!in(firm, 0, 1) || !in(amount, 0, 1000000)) {
        return BAD;
      }
      long[] sums = new long[2];
      for (T t : st.tugs) {
        sums[t.firm] += (long) t.pull * t.worked();
      }
      int one = sums[0] + sums[1] == 0 ? 0 : (int) (amount * sums[1] / (sums[0] + sums[1]));
      return firm == 1 ? one : amount - one;
    }

    long work(int tug, int what) {
      if (!isTug(tug) || !in(what, 0, 1)) {
        return BAD;
      }
      boolean[] a = what == 0 ? st.tugs.get(tug).work : st.tugs.get(tug).bunkers;
      long bits = 0;
      for (int i = 47; i >= 0; i--) {
        bits = bits * 2 + (a[i] ? 1 : 0);
      }
      return bits;
    }

    int about(int tug, int what) {
      if (!isTug(tug) || !in(what, 0, 7)) {
        return -100;
      }
      T t = st.tugs.get(tug);
      int at = t.home;
      int last = -1;
      for (S s : st.ships) {
        if (s.job != null && s.job.set.contains(tug) && s.last() > last) {
          last = s.last();
          at = s.to;
        }
      }
      return new int[] {t.firm, t.pull, t.kind, t.tank, t.crew, t.home,
          t.broken < 0 ? NONE : t.broken, at}[what];
    }

    int keep() {
      if (kept.size() == 3) {
        return FULL;
      }
      kept.add(st.copy());
      return kept.size();
    }

    int back() {
      if (kept.isEmpty()) {
        return NO;
      }
      met(true, "kept and back");
      st = kept.remove(kept.size() - 1);
      return kept.size();
    }

    int count(int what) {
      if (!in(what, 0, 9)) {
        return BAD;
      }
      return new int[] {st.tugs.size(), st.ships.size(), served(st, st.ships.size()), stormHours(),
          st.book[0], st.book[1], st.book[2], st.book[3], rules.size(), kept.size()}[what];
    }
  }

  // ---- what the runs have met: without it a run of them proves little

  static final TreeSet<String> MET = new TreeSet<>();
  static final List<String> DUE = new ArrayList<>();

  static {
    for (int i = 0; i <= 12; i++) {
      DUE.add("may " + i);
    }
    DUE.addAll(List.of("goes on", "taken off by breaking", "taken off by storm", "jobs lifted",
        "order not by numbers", "best of two tugs", "best of three tugs", "no best",
        "price below 0", "kept and back", "bunkers lost", "off behind going on"));
  }

  static void met(boolean so, String what) {
    if (so) {
      MET.add(what);
    }
  }

  // ---- random calls

  static final class Run {
    final Random random;
    final HarbourTugs x = new HarbourTugs();
    final Model m = new Model();
    final List<String> said = new ArrayList<>();
    final int basins;
    boolean wrong = false;

    Run(long seed) {
      random = new Random(seed);
      basins = random.nextInt(3);
    }

    /** Mostly within a to b, at times at an edge, now and then outside. */
    int some(int a, int b) {
      int k = random.nextInt(60);
      if (k == 0) {
        return a - 1;
      }
      if (k == 1) {
        return b + 1;
      }
      if (k == 2) {
        return random.nextBoolean() ? Integer.MIN_VALUE : Integer.MAX_VALUE;
      }
      if (k < 6) {
        return random.nextBoolean() ? a : b;
      }
      return a + random.nextInt(Math.max(1, b - a + 1));
    }

    void due(String call, long got, long want) {
      said.add(call + " = " + want);
      if (got != want && !wrong) {
        wrong = true;
        System.out.println(String.join("\n", said));
        System.out.println("^ answered " + got);
      }
    }

    int aShip() {
      return some(0, m.st.ships.size() - 1);
    }

    int aTug() {
      return some(0, m.st.tugs.size() - 1);
    }

    int aSet() {
      return some(1, (1 << m.st.tugs.size()) - 1);
    }

    void tell(int what) {
      int a = some(0, 11), b = some(0, 9), h = some(0, 47), c = some(0, 5), d = some(0, 1);
      switch (what) {
        case 0:
          due("tide " + a + " " + b, x.tide(a, b), m.tide(a, b));
          return;
        case 1:
          due("wind " + h + " " + b, x.wind(h, b), m.wind(h, b));
          return;
        case 2: {
          int w = some(0, 2);
          int v = w == 0 ? some(0, 6) : w == 1 ? some(0, 1) : some(1, 30);
          due("rule " + w + " " + v, x.rule(w, v), m.rule(w, v));
          return;
        }
        case 3: {
          int v = d == 0 ? some(0, 60) : some(0, basins);
          due("berth " + c + " " + d + " " + v, x.berth(c, d, v), m.berth(c, d, v));
          return;
        }
        case 4: {
          int e = some(0, 5);
          due("way " + c + " " + e, x.way(c, e), m.way(c, e));
          return;
        }
        default:
          come(what == 5);
      }
    }

    void come(boolean tug) {
      if (tug) {
        int f = some(0, 1), p = some(1, 60), k = some(0, 1), tank = some(1, 48);
        int fuel = some(0, Math.max(0, Math.min(tank, 48))), crew = some(1, 12), home = some(0, 5);
        due("tug " + List.of(f, p, k, fuel, tank, crew, home),
            x.tug(f, p, k, fuel, tank, crew, home), m.tug(f, p, k, fuel, tank, crew, home));
      } else {
        int size = some(1, 50), draft = random.nextInt(3) > 0 ? 0 : some(0, 9);
        int ready = random.nextBoolean() ? some(0, 10) : some(0, 47), length = some(1, 4);
        int weight = some(1, 20), from = some(0, 5), to = some(0, 5);
        due("ship " + List.of(size, draft, ready, length, weight, from, to),
            x.ship(size, draft, ready, length, weight, from, to),
            m.ship(size, draft, ready, length, weight, from, to));
      }
    }

    void jobs(int what) {
      int s = aShip(), t = aTug(), h = some(0, 47), set = aSet(), d = some(0, 1);
      switch (what) {
        case 0:
          due("needs " + s + " " + h, x.needs(s, h), m.needs(s, h));
          return;
        case 1:
          due("bunker " + t + " " + h, x.bunker(t, h), m.bunker(t, h));
          return;
        case 2: {
          int at = some(-1, 47);
          due("fuel " + t + " " + at, x.fuel(t, at), m.fuel(t, at));
          return;
        }
        case 3:
          due("may " + s + " " + h + " " + set, x.may(s, h, set), m.may(s, h, set));
          return;
        case 4: {
          if (m.isShip(s) && random.nextBoolean()) {
            int at = m.best(s, 0);
            h = at >= 0 ? at + random.nextInt(3) : h;
            set = at >= 0 ? m.best(s, 1) | (random.nextInt(3) == 0 ? Math.max(0, set) : 0) : set;
          }
          due("lay " + s + " " + h + " " + set, x.lay(s, h, set), m.lay(s, h, set));
          return;
        }
        case 5:
          due("off " + s, x.off(s), m.off(s));
          return;
        case 6:
          due("best " + s + " " + d, x.best(s, d), m.best(s, d));
          return;
        default:
          due("job " + s + " " + d, x.job(s, d), m.job(s, d));
      }
    }

    void plans(int what) {
      int n = some(1, Math.min(4, Math.max(1, m.st.ships.size()))), w = some(0, 3);
      switch (what) {
        case 0: {
          int i = some(-1, n);
          due("order " + n + " " + i, x.order(n, i), m.order(n, i));
          return;
        }
        case 1:
          due("layOrder " + n, x.layOrder(n), m.layOrder(n));
          return;
        case 2:
          due("mended " + n + " " + w, x.mended(n, w), m.mended(n, w));
          return;
        default:
          due("layMended " + n, x.layMended(n), m.layMended(n));
      }
    }

    void trouble(int what) {
      int t = aTug(), h = some(0, 47);
      switch (what) {
        case 0: {
          int s = aShip();
          if (m.isShip(s) && m.st.ships.get(s).job != null) {
            t = m.st.ships.get(s).job.set.first();
            h = m.st.ships.get(s).job.hour + random.nextInt(3);
          }
          due("breaks " + t + " " + h, x.breaks(t, h), m.breaks(t, h));
          return;
        }
        case 1:
        case 2:
          due("mend " + t, x.mend(t), m.mend(t));
          return;
        case 3: {
          int b = h < 47 ? h + random.nextInt(3) : some(h - 1, h);
          due("storm " + h + " " + b, x.storm(h, b), m.storm(h, b));
          return;
        }
        default:
          due("calm", x.calm(), m.calm());
      }
    }

    void money(int what) {
      int s = aShip(), t = aTug();
      switch (what) {
        case 0: {
          int test = some(0, 6), k = some(0, 1);
          int v = random.nextInt(4) == 0 ? some(0, 400) : some(0, 10);
          int a = k == 0 ? some(-1000, random.nextBoolean() ? 1000 : 100000)
              : some(-100, random.nextBoolean() ? 100 : 1000);
          due("priceRule " + List.of(test, v, k, a), x.priceRule(test, v, k, a),
              m.priceRule(test, v, k, a));
          return;
        }
        case 1:
          due("price " + s, x.price(s), m.price(s));
          return;
        case 2: {
          int f = some(0, 1), a = some(0, 1000000);
          due("pool " + f + " " + a, x.pool(f, a), m.pool(f, a));
          return;
        }
        case 3: {
          int d = some(0, 1);
          due("work " + t + " " + d, x.work(t, d), m.work(t, d));
          return;
        }
        case 4: {
          int w = some(0, 7);
          due("about " + t + " " + w, x.about(t, w), m.about(t, w));
          return;
        }
        case 5:
          due("keep", x.keep(), m.keep());
          return;
        case 6:
          due("back", x.back(), m.back());
          return;
        default: {
          int w = some(0, 9);
          due("count " + w, x.count(w), m.count(w));
        }
      }
    }

    void everything() {
      for (int t = 0; t < 6; t++) {
        for (int w = 0; w < 8; w++) {
          due("about " + t + " " + w, x.about(t, w), m.about(t, w));
        }
        due("work " + t + " 0", x.work(t, 0), m.work(t, 0));
        due("work " + t + " 1", x.work(t, 1), m.work(t, 1));
        due("fuel " + t + " 47", x.fuel(t, 47), m.fuel(t, 47));
      }
      for (int s = 0; s < 8; s++) {
        due("job " + s + " 0", x.job(s, 0), m.job(s, 0));
        due("job " + s + " 1", x.job(s, 1), m.job(s, 1));
        due("price " + s, x.price(s), m.price(s));
      }
      for (int w = -1; w <= 10; w++) {
        due("count " + w, x.count(w), m.count(w));
      }
    }

    boolean go(int calls) {
      int tugs = random.nextInt(7), ships = random.nextInt(9);
      for (int i = 0; i < tugs; i++) {
        come(true);
      }
      for (int i = 0; i < ships; i++) {
        come(false);
      }
      for (int i = 0; i < calls && !wrong; i++) {
        int k = random.nextInt(100);
        if (k < 22) {
          tell(random.nextInt(7));
        } else if (k < 65) {
          jobs(random.nextInt(8));
        } else if (k < 68) {
          plans(random.nextInt(4));
        } else if (k < 78) {
          trouble(random.nextInt(5));
        } else {
          money(random.nextInt(8));
        }
      }
      everything();
      return !wrong;
    }
  }

  public static void main(String[] args) {
    int runs = args.length > 0 ? Integer.parseInt(args[0]) : 400;
    int first = args.length > 1 ? Integer.parseInt(args[1]) : 1;
    int failed = 0;
    for (int seed = first; seed < first + runs && failed < 3; seed++) {
      if (!new Run(seed).go(380)) {
        System.out.println("seed " + seed + " is wrong");
        failed++;
      }
    }
    System.out.println(failed == 0 ? "all runs agree with the model" : failed + " runs differ");
    for (String what : DUE) {
      if (!MET.contains(what)) {
        System.out.println("never met: " + what);
        failed++;
      }
    }
    if (failed != 0) {
      System.exit(1);
    }
  }
}
