import java.util.ArrayList;
import java.util.Arrays;
import java.util.HashMap;
import java.util.List;
import java.util.Map;
import java.util.regex.Matcher;
import java.util.regex.Pattern;

/** The document once more, in its slowest and plainest form: what EqualPlain is compared with. */
public final class NaiveModel {
  static final int BEYOND = -1000001, FULL = BEYOND - 1, KIND = BEYOND - 2, NONE = BEYOND - 3;
  static final int STATE = BEYOND - 4, MISSING = BEYOND - 5, SIZE = BEYOND - 6;
  static final int[] ABOVE = {-1, 0, 0, 1, 2, 0, 5};
  static final String[] NAMES = {"house", "hut", "inn", "ruin", "church", "streeted", "tower"};

  record House(int kind, int x, int y) {
    int far(int toX, int toY) { return farAs(kind, toX, toY); }
    private int farAs(int k, int toX, int toY) {
      int dx = Math.abs(x - toX), dy = Math.abs(y - toY);
      if (k == 0) return dx * dx + dy * dy;
      if (k == 5) return (dx + dy) * (dx + dy);
      if (k == 6) return farAs(5, toX, toY) - 1;
      if (k == 4) return farAs(2, toX, toY) + 1;
      return farAs(ABOVE[k], toX, toY);
    }
    boolean counts(House o) { return countsAs(kind, o); }
    private boolean countsAs(int k, House o) {
      if (k == 0) return true;
      if (k == 1) return o.kind != 1 && o.kind != 3;
      if (k == 3) return false;
      if (k == 2) return o.far(x, y) <= 64;
      return countsAs(ABOVE[k], o);
    }
    int costs() { return costsAs(kind); }
    private int costsAs(int k) {
      if (k == 0) return 10;
      if (k == 1) return 3;
      if (k == 2) return 25;
      if (k == 6) return costsAs(5) + 30;
      if (k == 3) return costsAs(1) + 1;
      return costsAs(ABOVE[k]);
    }
    int lot() { return 12 * y + x; }
  }

  static final class State {
    List<House> houses = new ArrayList<>();
    int[] worth = new int[144];
    int[] spots = new int[10];
    int coin = 100, year = 0, z = 1;
    State() { Arrays.fill(spots, -1); }
    State copied() {
      State s = new State();
      s.houses = new ArrayList<>(houses);
      s.worth = worth.clone();
      s.spots = spots.clone();
      s.coin = coin; s.year = year; s.z = z;
      return s;
    }
    int draw() { z = z * 1103515245 + 12345; return z >>> 8; }
    boolean passYear() {
      int x = draw() % 12, y = draw() % 12, kind = draw() % 7;
      year++;
      House h = new House(kind, x, y);
      if (!free(houses, x, y) || houses.size() == 10 || coin < h.costs()) return false;
      coin = coin - h.costs() + worth[h.lot()];
      houses.add(h);
      return true;
    }
  }

  private State now = new State(), kept = null;
  private byte[] tape = new byte[0];
  private final int[][] sheets = new int[4][];
  private final int[] bits = new int[4];
  private final int[] told = new int[7];

  private int f(int which) { told[BEYOND - which]++; return which; }
  static boolean in(int v, int lo, int hi) { return v >= lo && v <= hi; }
  static boolean lot(int x, int y) { return in(x, 0, 11) && in(y, 0, 11); }
  static boolean stands(List<House> hs, int x, int y) {
    for (House h : hs) if (h.x == x && h.y == y) return true;
    return false;
  }
  static boolean isPair(House a, House b) { return a.counts(b) && b.counts(a); }
  static List<int[]> freeing(List<House> hs, int x, int y) {
    List<int[]> out = new ArrayList<>();
    if (stands(hs, x, y)) return out;
    for (int i = 0; i < hs.size(); i++)
      for (int j = i + 1; j < hs.size(); j++)
        if (hs.get(i).far(x, y) == hs.get(j).far(x, y) && isPair(hs.get(i), hs.get(j))) out.add(new int[] {i, j});
    return out;
  }
  static boolean free(List<House> hs, int x, int y) { return !freeing(hs, x, y).isEmpty(); }
  static boolean free(List<House> hs, int lot) { return free(hs, lot % 12, lot / 12); }
  static int freeCount(List<House> hs) {
    int n = 0;
    for (int l = 0; l < 144; l++) if (free(hs, l)) n++;
    return n;
  }
  static List<House> with(List<House> hs, int kind, int lot) {
    List<House> more = new ArrayList<>(hs);
    more.add(new House(kind, lot % 12, lot / 12));
    return more;
  }
  static List<House> without(List<House> hs, int h) {
    List<House> less = new ArrayList<>(hs);
    less.remove(h);
    return less;
  }
  boolean house(int h) { return h >= 0 && h < now.houses.size(); }

  public int grace(int kind, int x, int y) {
    if (!in(kind, 0, 6) || !lot(x, y)) return f(BEYOND);
    if (stands(now.houses, x, y)) return f(STATE);
    if (now.houses.size() == 10) return f(FULL);
    now.houses.add(new House(kind, x, y));
    return now.houses.size() - 1;
  }
  public int build(int kind, int x, int y) {
    if (!in(kind, 0, 6) || !lot(x, y)) return f(BEYOND);
    House h = new House(kind, x, y);
    if (!free(now.houses, x, y) || now.coin < h.costs()) return f(STATE);
    if (now.houses.size() == 10) return f(FULL);
    now.houses.add(h);
    now.coin += now.worth[h.lot()] - h.costs();
    return now.coin;
  }
  public int of(int house, int what) {
    if (!house(house) || !in(what, 0, 4)) return f(BEYOND);
    House h = now.houses.get(house);
    int set = 0;
    for (int o = 0; o < now.houses.size(); o++) if (o != house && isPair(h, now.houses.get(o))) set |= 1 << o;
    return new int[] {h.kind, h.x, h.y, h.costs(), set}[what];
  }
  public int change(int house, int v) {
    if (!house(house) || !in(v, 0, 6)) return f(BEYOND);
    House h = now.houses.get(house);
    now.houses.set(house, new House(v, h.x, h.y));
    return h.kind;
  }
  public int fire() {
    if (now.houses.isEmpty()) return f(NONE);
    return now.houses.remove(now.houses.size() - 1).lot();
  }
  public int worth(int x, int y, int v) {
    if (!lot(x, y) || !in(v, 0, 99)) return f(BEYOND);
    int was = now.worth[12 * y + x];
    now.worth[12 * y + x] = v;
    return was;
  }
  public int coin(int v) {
    if (!in(v, 0, 99999)) return f(BEYOND);
    int was = now.coin;
    now.coin = v;
    return was;
  }
  public int far(int house, int x, int y) {
    if (!house(house) || !lot(x, y)) return f(BEYOND);
    return now.houses.get(house).far(x, y);
  }
  public int pairs(int x, int y) { return lot(x, y) ? freeing(now.houses, x, y).size() : f(BEYOND); }
  public int pair(int x, int y) {
    if (!lot(x, y)) return f(BEYOND);
    List<int[]> all = freeing(now.houses, x, y);
    return all.isEmpty() ? f(NONE) : 10 * all.get(0)[0] + all.get(0)[1];
  }
  public int row(int y) {
    if (!in(y, 0, 11)) return f(BEYOND);
    int set = 0;
    for (int x = 0; x < 12; x++) if (free(now.houses, x, y)) set |= 1 << x;
    return set;
  }
  public int lots(int what) {
    if (!in(what, 0, 2)) return f(BEYOND);
    if (what == 0) return freeCount(now.houses);
    if (what == 2) return everSet().size();
    int n = 0;
    for (int l = 0; l < 144; l++) if (freeing(now.houses, l % 12, l / 12).size() == 1) n++;
    return n;
  }
  public int only(int y) {
    if (!in(y, 0, 11)) return f(BEYOND);
    int set = 0;
    for (int x = 0; x < 12; x++) if (freeing(now.houses, x, y).size() == 1) set |= 1 << x;
    return set;
  }
  private List<Integer> everSet() {
    List<House> all = new ArrayList<>(now.houses);
    List<Integer> had = new ArrayList<>();
    boolean more = true;
    while (more) {
      more = false;
      for (int l = 0; l < 144; l++)
        if (free(all, l)) { all.add(new House(0, l % 12, l / 12)); had.add(l); more = true; }
    }
    return had;
  }
  public int ever(int y) {
    if (!in(y, 0, 11)) return f(BEYOND);
    int set = 0;
    for (int l : everSet()) if (l / 12 == y) set |= 1 << l % 12;
    return set;
  }
  public int sum() {
    int all = 0;
    for (int l = 0; l < 144; l++) if (free(now.houses, l)) all += now.worth[l];
    return all;
  }
  public int best() {
    int b = -1;
    for (int l = 143; l >= 0; l--) if (free(now.houses, l) && (b < 0 || now.worth[l] >= now.worth[b])) b = l;
    return b < 0 ? f(NONE) : b;
  }
  private List<Integer> lost(int house) {
    List<Integer> out = new ArrayList<>();
    List<House> less = without(now.houses, house);
    for (int l = 0; l < 144; l++) if (free(now.houses, l) && !free(less, l)) out.add(l);
    return out;
  }
  private int lostWorth(int house) {
    int all = 0;
    for (int l : lost(house)) all += now.worth[l];
    return all;
  }
  public int loses(int house) { return house(house) ? lost(house).size() : f(BEYOND); }
  public int dear(int house) { return house(house) ? lostWorth(house) : f(BEYOND); }
  public int dearest() {
    int b = -1;
    for (int h = now.houses.size() - 1; h >= 0; h--) if (b < 0 || lostWorth(h) >= lostWorth(b)) b = h;
    return b < 0 ? f(NONE) : b;
  }
  public int keepers(int x, int y) {
    if (!lot(x, y)) return f(BEYOND);
    if (!free(now.houses, x, y)) return f(NONE);
    int set = 0;
    for (int h = 0; h < now.houses.size(); h++) if (!free(without(now.houses, h), x, y)) set |= 1 << h;
    return set;
  }
  public int kindFor(int house) {
    if (!house(house)) return f(BEYOND);
    int b = -1, most = -1;
    for (int k = 0; k < 7; k++) {
      List<House> hs = new ArrayList<>(now.houses);
      hs.set(house, new House(k, hs.get(house).x, hs.get(house).y));
      if (freeCount(hs) > most) { b = k; most = freeCount(hs); }
    }
    return b;
  }
  public int law() {
    int b = -1, most = -1;
    for (int k = 0; k < 7; k++) {
      List<House> hs = new ArrayList<>();
      for (House h : now.houses) hs.add(new House(k, h.x, h.y));
      if (freeCount(hs) > most) { b = k; most = freeCount(hs); }
    }
    return b;
  }
  /** The way, or null. */
  private static int[] way(List<House> hs, int goal) {
    if (free(hs, goal)) return new int[0];
    for (int a = 0; a < 144; a++)
      if (a != goal && free(hs, a) && free(with(hs, 0, a), goal)) return new int[] {a};
    for (int a = 0; a < 144; a++) {
      if (a == goal || !free(hs, a)) continue;
      List<House> one = with(hs, 0, a);
      for (int b = 0; b < 144; b++)
        if (b != goal && free(one, b) && free(with(one, 0, b), goal)) return new int[] {a, b};
    }
    return null;
  }
  public int huts(int x, int y) {
    if (!lot(x, y)) return f(BEYOND);
    if (stands(now.houses, x, y)) return f(STATE);
    int[] w = way(now.houses, 12 * y + x);
    return w == null ? f(NONE) : w.length;
  }
  public int hut(int x, int y, int i) {
    if (!lot(x, y) || !in(i, 0, 1)) return f(BEYOND);
    if (stands(now.houses, x, y)) return f(STATE);
    int[] w = way(now.houses, 12 * y + x);
    return w == null || i >= w.length ? f(NONE) : w[i];
  }
  private int[] opening(int kind) {
    int[] b = {-1, -1};
    for (int l = 0; l < 144; l++) {
      if (!free(now.houses, l)) continue;
      int n = freeCount(with(now.houses, kind, l));
      if (n > b[1]) b = new int[] {l, n};
    }
    return b;
  }
  private int opening(int kind, int what) {
    if (!in(kind, 0, 6)) return f(BEYOND);
    if (freeCount(now.houses) == 0) return f(NONE);
    return now.houses.size() == 10 ? f(FULL) : opening(kind)[what];
  }
  public int opens(int kind) { return opening(kind, 0); }
  public int opened(int kind) { return opening(kind, 1); }

  /** Orders that begin with those ahead, in their order of old or any other. */
  private int goOn(int set, Map<Integer, Integer> seen) {
    int n = now.houses.size();
    if (set == (1 << n) - 1) return 1;
    if (n > 6 && seen.containsKey(set)) return seen.get(set);
    List<House> ahead = new ArrayList<>();
    for (int h = 0; h < n; h++) if ((set >> h & 1) != 0) ahead.add(now.houses.get(h));
    int all = 0;
    for (int h = 0; h < n; h++)
      if ((set >> h & 1) == 0 && (ahead.size() < 2 || free(ahead, now.houses.get(h).lot()))) all += goOn(set | 1 << h, seen);
    seen.put(set, all);
    return all;
  }
  public int orders() { return goOn(0, new HashMap<>()); }
  public int founders(int house) {
    if (!house(house)) return f(BEYOND);
    int n = now.houses.size();
    if (n == 1) return 1;
    int all = 0;
    for (int o = 0; o < n; o++) if (o != house) all += 2 * goOn(1 << o | 1 << house, new HashMap<>());
    return all;
  }
  private boolean comesTo(int set, int goal) {
    if (set == goal) return true;
    List<House> ahead = new ArrayList<>();
    for (int h = 0; h < 10; h++) if ((set >> h & 1) != 0) ahead.add(now.houses.get(h));
    // those ahead only ever grow: what is free by then stays so, so the first that fits may be taken
    for (int h = 0; h < 10; h++)
      if ((goal >> h & 1) != 0 && (set >> h & 1) == 0 && free(ahead, now.houses.get(h).lot())) return comesTo(set | 1 << h, goal);
    return false;
  }
  public int latest() {
    int n = now.houses.size();
    if (n == 0) return f(NONE);
    if (n <= 2) return n - 1;
    for (int h = n - 1; h >= 0; h--) {
      int others = (1 << n) - 1 & ~(1 << h);
      if (!free(without(now.houses, h), now.houses.get(h).lot())) continue;
      for (int a = 0; a < n; a++)
        for (int b = 0; b < a; b++)
          if (a != h && b != h && comesTo(1 << a | 1 << b, others)) return h;
    }
    return f(NONE);
  }
  public int years(int n) {
    if (!in(n, 1, 60)) return f(BEYOND);
    if (now.year + n > 9999) return f(STATE);
    int built = 0;
    for (int i = 0; i < n; i++) if (now.passYear()) built++;
    return built;
  }
  public int ahead(int n, int what) {
    if (!in(n, 0, 60) || !in(what, 0, 2)) return f(BEYOND);
    if (now.year + n > 9999) return f(STATE);
    State s = now.copied();
    for (int i = 0; i < n; i++) s.passYear();
    return new int[] {s.houses.size(), s.coin, freeCount(s.houses)}[what];
  }
  public int when() {
    if (now.year > 9900) return f(STATE);
    State s = now.copied();
    for (int i = 1; i <= 99; i++) if (s.passYear()) return i;
    return f(NONE);
  }
  public int strew(int n) {
    if (!in(n, 1, 12)) return f(BEYOND);
    if (now.houses.isEmpty()) return f(STATE);
    for (int i = 0; i < n; i++) {
      int h = now.draw() % now.houses.size();
      int l = now.draw() % 144;
      if (!stands(now.houses, l % 12, l / 12)) now.houses.set(h, new House(now.houses.get(h).kind, l % 12, l / 12));
    }
    return freeCount(now.houses);
  }
  public int seed(int v) { int was = now.z; now.z = v; return was; }
  public int feed(int bytes, int n) {
    if (!in(n, 1, 4)) return f(BEYOND);
    if (tape.length + n > 120) return f(FULL);
    int old = tape.length;
    tape = Arrays.copyOf(tape, old + n);
    for (int i = 0; i < n; i++) tape[old + n - 1 - i] = (byte) (bytes >> 8 * i);
    return tape.length;
  }
  public int wipe() { int had = tape.length; tape = new byte[0]; return had; }

  private static final Pattern TOKEN = Pattern.compile(" *([a-z]+|[0-9]+|[^ ]|$)", Pattern.DOTALL);
  private static boolean number(String t, int most) {
    return t.matches("[0-9]+") && new java.math.BigInteger(t).compareTo(java.math.BigInteger.valueOf(most)) <= 0;
  }
  public int text() {
    String all = new String(tape, java.nio.charset.StandardCharsets.ISO_8859_1);
    tape = new byte[0];
    Matcher m = TOKEN.matcher(all);
    List<String> tokens = new ArrayList<>();
    List<Integer> places = new ArrayList<>();
    while (m.find()) {
      tokens.add(m.group(1));
      places.add(m.start(1));
      if (m.group(1).isEmpty()) break;
    }
    State s = now.copied();
    int at = 0, items = 0;
    while (true) {
      String form = switch (tokens.get(at)) { case "worth" -> "w9oxx"; case "coin" -> "c5"; default -> "haxy"; };
      int[] v = new int[5];
      for (int i = 0; i < form.length(); i++) {
        String t = tokens.get(at + i);
        boolean good = switch (form.charAt(i)) {
          case 'h' -> Arrays.asList(NAMES).contains(t) && s.houses.size() < 10;
          case 'a' -> t.equals("at");
          case 'o' -> t.equals("on");
          case '9' -> number(t, 99);
          case '5' -> number(t, 99999);
          case 'x' -> number(t, 11);
          case 'y' -> number(t, 11) && !stands(s.houses, v[2], Integer.parseInt(t));
          default -> true;
        };
        if (!good) return -1 - places.get(at + i);
        if (number(t, 99999)) v[i] = Integer.parseInt(t);
      }
      if (form.charAt(0) == 'h') s.houses.add(new House(Arrays.asList(NAMES).indexOf(tokens.get(at)), v[2], v[3]));
      if (form.charAt(0) == 'w') s.worth[12 * v[4] + v[3]] = v[1];
      if (form.charAt(0) == 'c') s.coin = v[1];
      items++;
      at += form.length();
      if (tokens.get(at).isEmpty()) break;
      if (!tokens.get(at).equals(";")) return -1 - places.get(at);
      at++;
    }
    now = s;
    return items;
  }
  public int hold(int spot, int house) {
    if (!in(spot, 0, 9) || (house != -1 && !house(house))) return f(BEYOND);
    now.spots[spot] = house;
    return 1;
  }
  public int as(int spot, int kind) {
    if (!in(spot, 0, 9) || !in(kind, 0, 6)) return f(BEYOND);
    int h = now.spots[spot];
    if (!house(h)) return f(MISSING);
    for (int k = now.houses.get(h).kind; k >= 0; k = ABOVE[k]) if (k == kind) return h;
    return f(KIND);
  }
  public int sheet(int s, int bit, int n) {
    if (!in(s, 0, 3) || !Arrays.asList(0, 8, 16, 32).contains(bit)) return f(BEYOND);
    if (n < 0) return f(SIZE);
    if (n > 40) return f(BEYOND);
    sheets[s] = bit == 0 ? null : new int[n];
    bits[s] = bit;
    return bit == 0 ? 0 : n;
  }
  public int write(int s, int i, int v) {
    if (!in(s, 0, 3)) return f(BEYOND);
    if (sheets[s] == null) return f(MISSING);
    if (!in(i, 0, sheets[s].length - 1)) return f(BEYOND);
    sheets[s][i] = v << 32 - bits[s] >> 32 - bits[s];
    return 1;
  }
  public int copy(int s, int from, int t, int to, int n) {
    if (!in(s, 0, 3) || !in(t, 0, 3)) return f(BEYOND);
    if (sheets[s] == null || sheets[t] == null) return f(MISSING);
    if (bits[s] != bits[t]) return f(KIND);
    if (from < 0 || to < 0 || n < 0) return f(BEYOND);
    if ((long) from + n > sheets[s].length || (long) to + n > sheets[t].length) return f(BEYOND);
    int[] was = sheets[s].clone();
    for (int i = 0; i < n; i++) sheets[t][to + i] = was[from + i];
    return n;
  }
  public int load(int s) {
    if (!in(s, 0, 3)) return f(BEYOND);
    if (sheets[s] == null) return f(MISSING);
    int i = 0;
    while (i < sheets[s].length && in(sheets[s][i], 0, 99)) { now.worth[i] = sheets[s][i]; i++; }
    return i;
  }
  public int judge(int s) {
    if (!in(s, 0, 3)) return f(BEYOND);
    if (sheets[s] == null) return f(MISSING);
    if (sheets[s].length + now.houses.size() > 10) return f(SIZE);
    List<House> hs = now.houses;
    for (int i = 0; i < sheets[s].length; i++) {
      if (!in(sheets[s][i], 0, 143) || !free(hs, sheets[s][i])) return 1 + i;
      hs = with(hs, 0, sheets[s][i]);
    }
    return 0;
  }
  public int image() { kept = now.copied(); return 1; }
  public int undo() {
    if (kept == null) return f(NONE);
    now = kept.copied();
    return now.year;
  }
  public int tear() { int had = kept == null ? 0 : 1; kept = null; return had; }
  public int count(int what) {
    if (!in(what, 0, 7)) return f(BEYOND);
    int all = 0;
    switch (what) {
      case 3:
        for (int i = 0; i < now.houses.size(); i++)
          for (int j = 0; j < i; j++) if (isPair(now.houses.get(i), now.houses.get(j))) all++;
        return all;
      case 4: return Arrays.stream(now.worth).sum();
      case 7:
        for (int s : now.spots) if (s >= 0) all++;
        return all;
      default: return new int[] {now.year, now.houses.size(), now.coin, 0, 0, tape.length, now.z}[what];
    }
  }
  public int status(int which) {
    if (!in(which, -1, 6)) return f(BEYOND);
    return which < 0 ? Arrays.stream(told).sum() : told[which];
  }
}
