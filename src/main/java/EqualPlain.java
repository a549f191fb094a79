import java.util.Arrays;

/** A plain on which a new house stands only as far from one house as from some other. */
public final class EqualPlain {
  private static final int BEYOND = -1000001;
  private static final int FULL = -1000002;
  private static final int KIND = -1000003;
  private static final int NONE = -1000004;
  private static final int STATE = -1000005;
  private static final int MISSING = -1000006;
  private static final int SIZE = -1000007;
  private static final int FINDINGS = 7;

  private static final int SIDE = 12;
  private static final int ALL_LOTS = 144;
  private static final int MOST_HOUSES = 10;
  private static final int MOST_WORTH = 99;
  private static final int MOST_COIN = 99999;
  private static final int MOST_YEAR = 9999;
  private static final int ALL_SPOTS = 10;
  private static final int ALL_SHEETS = 4;
  private static final int MOST_NUMBERS = 40;
  private static final int MOST_BYTES = 120;
  private static final int NOTHING = -1;

  private static final int HOUSE = 0;
  private static final int HUT = 1;
  private static final int INN = 2;
  private static final int RUIN = 3;
  private static final int CHURCH = 4;
  private static final int STREETED = 5;
  private static final int TOWER = 6;
  private static final int ALL_KINDS = 7;

  private final Town town = new Town();
  private final Town kept = new Town();
  private boolean isKept = false;
  /** What is tried out without a change to the town goes on in here. */
  private final Town trial = new Town();
  private final Tape tape = new Tape();
  private final Sheet[] sheets = new Sheet[ALL_SHEETS];
  private final int[] told = new int[FINDINGS];
  private final Spread spread = new Spread();
  private final Ladder ladder = new Ladder();
  private final Openings openings = new Openings();
  private final History history = new History();

  public EqualPlain() {
    for (int s = 0; s < ALL_SHEETS; s++) {
      sheets[s] = new Sheet();
    }
  }

  // ---- houses

  public int grace(int kind, int x, int y) {
    if (!isKind(kind) || !isLot(x, y)) {
      return finding(BEYOND);
    }
    Houses houses = town.houses();
    if (houses.stands(lotOf(x, y))) {
      return finding(STATE);
    }
    if (houses.isFull()) {
      return finding(FULL);
    }
    houses.put(kind, lotOf(x, y));
    return houses.size() - 1;
  }

  public int build(int kind, int x, int y) {
    if (!isKind(kind) || !isLot(x, y)) {
      return finding(BEYOND);
    }
    if (!town.allows(kind, lotOf(x, y))) {
      return finding(STATE);
    }
    if (town.houses().isFull()) {
      return finding(FULL);
    }
    town.raise(kind, lotOf(x, y));
    return town.purse();
  }

  public int of(int house, int what) {
    Houses houses = town.houses();
    if (!houses.has(house) || what < 0 || what > 4) {
      return finding(BEYOND);
    }
    switch (what) {
      case 0:
        return houses.kindOf(house);
      case 1:
        return houses.homeOf(house) % SIDE;
      case 2:
        return houses.homeOf(house) / SIDE;
      case 3:
        return Kinds.costs(houses.kindOf(house));
      default:
        return houses.partners(house);
    }
  }

  public int change(int house, int v) {
    Houses houses = town.houses();
    if (!houses.has(house) || !isKind(v)) {
      return finding(BEYOND);
    }
    int was = houses.kindOf(house);
    houses.become(house, v);
    return was;
  }

  public int fire() {
    Houses houses = town.houses();
    if (houses.size() == 0) {
      return finding(NONE);
    }
    int home = houses.homeOf(houses.size() - 1);
    houses.burnLast();
    return home;
  }

  public int worth(int x, int y, int v) {
    if (!isLot(x, y) || v < 0 || v > MOST_WORTH) {
      return finding(BEYOND);
    }
    int was = town.worthOf(lotOf(x, y));
    town.setWorth(lotOf(x, y), v);
    return was;
  }

  public int coin(int v) {
    if (v < 0 || v > MOST_COIN) {
      return finding(BEYOND);
    }
    int was = town.purse();
    town.setPurse(v);
    return was;
  }

  public int far(int house, int x, int y) {
    Houses houses = town.houses();
    if (!houses.has(house) || !isLot(x, y)) {
      return finding(BEYOND);
    }
    return houses.farOf(house, lotOf(x, y));
  }

  // ---- lots

  public int pairs(int x, int y) {
    if (!isLot(x, y)) {
      return finding(BEYOND);
    }
    return town.houses().freeings(lotOf(x, y));
  }

  public int pair(int x, int y) {
    if (!isLot(x, y)) {
      return finding(BEYOND);
    }
    Houses houses = town.houses();
    if (!houses.isFree(lotOf(x, y))) {
      return finding(NONE);
    }
    return houses.firstPair(lotOf(x, y));
  }

  public int row(int y) {
    if (!isPlace(y)) {
      return finding(BEYOND);
    }
    int set = 0;
    for (int x = 0; x < SIDE; x++) {
      if (town.houses().isFree(lotOf(x, y))) {
        set |= 1 << x;
      }
    }
    return set;
  }

  public int lots(int what) {
    switch (what) {
      case 0:
        return town.houses().countFree();
      case 1:
        return town.houses().countFreeByOne();
      case 2:
        return spread.reach(town.houses());
      default:
        return finding(BEYOND);
    }
  }

  public int only(int y) {
    if (!isPlace(y)) {
      return finding(BEYOND);
    }
    int set = 0;
    for (int x = 0; x < SIDE; x++) {
      if (town.houses().freeings(lotOf(x, y)) == 1) {
        set |= 1 << x;
      }
    }
    return set;
  }

  public int ever(int y) {
    if (!isPlace(y)) {
      return finding(BEYOND);
    }
    spread.reach(town.houses());
    int set = 0;
    for (int x = 0; x < SIDE; x++) {
      if (spread.isHad(lotOf(x, y))) {
        set |= 1 << x;
      }
    }
    return set;
  }

  public int sum() {
    int all = 0;
    for (int lot = 0; lot < ALL_LOTS; lot++) {
      if (town.houses().isFree(lot)) {
        all += town.worthOf(lot);
      }
    }
    return all;
  }

  public int best() {
    int found = NOTHING;
    for (int lot = 0; lot < ALL_LOTS; lot++) {
      if (town.houses().isFree(lot) && (found < 0 || town.worthOf(lot) > town.worthOf(found))) {
        found = lot;
      }
    }
    return found < 0 ? finding(NONE) : found;
  }

  // ---- whose house

  public int loses(int house) {
    Houses houses = town.houses();
    if (!houses.has(house)) {
      return finding(BEYOND);
    }
    int lost = 0;
    for (int lot = 0; lot < ALL_LOTS; lot++) {
      if (houses.isFree(lot) && !houses.isFreeWithout(lot, house)) {
        lost++;
      }
    }
    return lost;
  }

  public int dear(int house) {
    if (!town.houses().has(house)) {
      return finding(BEYOND);
    }
    return town.worthLost(house);
  }

  public int dearest() {
    int found = NOTHING;
    int most = 0;
    for (int house = 0; house < town.houses().size(); house++) {
      int lost = town.worthLost(house);
      if (found < 0 || lost > most) {
        found = house;
        most = lost;
      }
    }
    return found < 0 ? finding(NONE) : found;
  }

  public int keepers(int x, int y) {
    if (!isLot(x, y)) {
      return finding(BEYOND);
    }
    Houses houses = town.houses();
    if (!houses.isFree(lotOf(x, y))) {
      return finding(NONE);
    }
    int set = 0;
    for (int house = 0; house < houses.size(); house++) {
      if (!houses.isFreeWithout(lotOf(x, y), house)) {
        set |= 1 << house;
      }
    }
    return set;
  }

  public int kindFor(int house) {
    if (!town.houses().has(house)) {
      return finding(BEYOND);
    }
    Houses houses = trial.houses();
    houses.becomeAs(town.houses());
    int found = 0;
    int most = NOTHING;
    for (int kind = 0; kind < ALL_KINDS; kind++) {
      houses.become(house, kind);
      int free = houses.countFree();
      if (free > most) {
        found = kind;
        most = free;
      }
    }
    return found;
  }

  public int law() {
    Houses houses = trial.houses();
    houses.becomeAs(town.houses());
    int found = 0;
    int most = NOTHING;
    for (int kind = 0; kind < ALL_KINDS; kind++) {
      houses.allBecome(kind);
      int free = houses.countFree();
      if (free > most) {
        found = kind;
        most = free;
      }
    }
    return found;
  }

  // ---- huts

  public int huts(int x, int y) {
    if (!isLot(x, y)) {
      return finding(BEYOND);
    }
    if (town.houses().stands(lotOf(x, y))) {
      return finding(STATE);
    }
    int needed = ladder.find(town.houses(), lotOf(x, y));
    return needed < 0 ? finding(NONE) : needed;
  }

  public int hut(int x, int y, int i) {
    if (!isLot(x, y) || i < 0 || i > 1) {
      return finding(BEYOND);
    }
    if (town.houses().stands(lotOf(x, y))) {
      return finding(STATE);
    }
    int needed = ladder.find(town.houses(), lotOf(x, y));
    if (i >= needed) {
      return finding(NONE);
    }
    return i == 0 ? ladder.first() : ladder.second();
  }

  public int opens(int kind) {
    if (!isKind(kind)) {
      return finding(BEYOND);
    }
    int lot = openings.find(town.houses(), kind);
    if (lot < 0) {
      return finding(NONE);
    }
    return town.houses().isFull() ? finding(FULL) : lot;
  }

  public int opened(int kind) {
    if (!isKind(kind)) {
      return finding(BEYOND);
    }
    int lot = openings.find(town.houses(), kind);
    if (lot < 0) {
      return finding(NONE);
    }
    return town.houses().isFull() ? finding(FULL) : openings.most();
  }

  // ---- the village

  public int orders() {
    return history.tell(town.houses(), NOTHING);
  }

  public int founders(int house) {
    if (!town.houses().has(house)) {
      return finding(BEYOND);
    }
    return history.tell(town.houses(), house);
  }

  public int latest() {
    history.tell(town.houses(), NOTHING);
    int house = history.lastOne();
    return house < 0 ? finding(NONE) : house;
  }

  // ---- years

  public int years(int n) {
    if (n < 1 || n > 60) {
      return finding(BEYOND);
    }
    if (town.age() + n > MOST_YEAR) {
      return finding(STATE);
    }
    return town.pass(n);
  }

  public int ahead(int n, int what) {
    if (n < 0 || n > 60 || what < 0 || what > 2) {
      return finding(BEYOND);
    }
    if (town.age() + n > MOST_YEAR) {
      return finding(STATE);
    }
    trial.becomeAs(town);
    trial.pass(n);
    if (what == 0) {
      return trial.houses().size();
    }
    return what == 1 ? trial.purse() : trial.houses().countFree();
  }

  public int when() {
    if (town.age() > MOST_YEAR - 99) {
      return finding(STATE);
    }
    trial.becomeAs(town);
    for (int n = 1; n <= 99; n++) {
      if (trial.pass(1) > 0) {
        return n;
      }
    }
    return finding(NONE);
  }

  public int strew(int n) {
    if (n < 1 || n > 12) {
      return finding(BEYOND);
    }
    Houses houses = town.houses();
    if (houses.size() == 0) {
      return finding(STATE);
    }
    for (int i = 0; i < n; i++) {
      town.strewOne();
    }
    return houses.countFree();
  }

  public int seed(int v) {
    int was = town.luck();
    town.setLuck(v);
    return was;
  }

  // ---- texts

  public int feed(int bytes, int n) {
    if (n < 1 || n > 4) {
      return finding(BEYOND);
    }
    if (tape.size() + n > MOST_BYTES) {
      return finding(FULL);
    }
    for (int i = n - 1; i >= 0; i--) {
      tape.put(bytes >>> (8 * i));
    }
    return tape.size();
  }

  public int wipe() {
    int had = tape.size();
    tape.empty();
    return had;
  }

  public int text() {
    trial.becomeAs(town);
    int answer = new Scribe(tape, trial).read();
    tape.empty();
    if (answer >= 0) {
      town.becomeAs(trial);
    }
    return answer;
  }

  // ---- spots, sheets

  public int hold(int spot, int house) {
    if (!isSpot(spot) || (house != NOTHING && !town.houses().has(house))) {
      return finding(BEYOND);
    }
    town.setSpot(spot, house);
    return 1;
  }

  public int as(int spot, int kind) {
    if (!isSpot(spot) || !isKind(kind)) {
      return finding(BEYOND);
    }
    int house = town.spotOf(spot);
    if (!town.houses().has(house)) {
      return finding(MISSING);
    }
    return Kinds.isUnder(town.houses().kindOf(house), kind) ? house : finding(KIND);
  }

  public int sheet(int s, int bits, int n) {
    Sheet ruled = sheetAt(s);
    if (ruled == null || (bits != 0 && bits != 8 && bits != 16 && bits != 32)) {
      return finding(BEYOND);
    }
    if (n < 0) {
      return finding(SIZE);
    }
    if (n > MOST_NUMBERS) {
      return finding(BEYOND);
    }
    ruled.rule(bits, n);
    return ruled.size();
  }

  public int write(int s, int i, int v) {
    Sheet written = sheetAt(s);
    if (written == null) {
      return finding(BEYOND);
    }
    if (written.isMissing()) {
      return finding(MISSING);
    }
    if (i < 0 || i >= written.size()) {
      return finding(BEYOND);
    }
    written.set(i, v);
    return 1;
  }

  public int copy(int s, int from, int t, int to, int n) {
    Sheet one = sheetAt(s);
    Sheet other = sheetAt(t);
    if (one == null || other == null) {
      return finding(BEYOND);
    }
    if (one.isMissing() || other.isMissing()) {
      return finding(MISSING);
    }
    if (one.bits() != other.bits()) {
      return finding(KIND);
    }
    if (!one.holds(from, n) || !other.holds(to, n)) {
      return finding(BEYOND);
    }
    other.take(to, one, from, n);
    return n;
  }

  public int load(int s) {
    Sheet loaded = sheetAt(s);
    if (loaded == null) {
      return finding(BEYOND);
    }
    if (loaded.isMissing()) {
      return finding(MISSING);
    }
    for (int i = 0; i < loaded.size(); i++) {
      int v = loaded.get(i);
      if (v < 0 || v > MOST_WORTH) {
        return i;
      }
      town.setWorth(i, v);
    }
    return loaded.size();
  }

  public int judge(int s) {
    Sheet judged = sheetAt(s);
    if (judged == null) {
      return finding(BEYOND);
    }
    if (judged.isMissing()) {
      return finding(MISSING);
    }
    if (town.houses().size() + judged.size() > MOST_HOUSES) {
      return finding(SIZE);
    }
    Houses houses = trial.houses();
    houses.becomeAs(town.houses());
    for (int i = 0; i < judged.size(); i++) {
      int lot = judged.get(i);
      if (lot < 0 || lot >= ALL_LOTS || !houses.isFree(lot)) {
        return 1 + i;
      }
      houses.put(HOUSE, lot);
    }
    return 0;
  }

  // ---- images

  public int image() {
    kept.becomeAs(town);
    isKept = true;
    return 1;
  }

  public int undo() {
    if (!isKept) {
      return finding(NONE);
    }
    town.becomeAs(kept);
    return town.age();
  }

  public int tear() {
    int had = isKept ? 1 : 0;
    isKept = false;
    return had;
  }

  public int count(int what) {
    switch (what) {
      case 0:
        return town.age();
      case 1:
        return town.houses().size();
      case 2:
        return town.purse();
      case 3:
        return town.houses().countPairs();
      case 4:
        return town.allWorth();
      case 5:
        return tape.size();
      case 6:
        return town.luck();
      case 7:
        return town.filledSpots();
      default:
        return finding(BEYOND);
    }
  }

  public int status(int which) {
    if (which < -1 || which >= FINDINGS) {
      return finding(BEYOND);
    }
    if (which >= 0) {
      return told[which];
    }
    int all = 0;
    for (int i = 0; i < FINDINGS; i++) {
      all += told[i];
    }
    return all;
  }

  private int finding(int which) {
    int place = BEYOND - which;
    if (place >= 0 && place < FINDINGS) {
      told[place]++;
    }
    return which;
  }

  private static boolean isKind(int kind) {
    return kind >= 0 && kind < ALL_KINDS;
  }

  private static boolean isPlace(int at) {
    return at >= 0 && at < SIDE;
  }

  private static boolean isLot(int x, int y) {
    return isPlace(x) && isPlace(y);
  }

  private static int lotOf(int x, int y) {
    return SIDE * y + x;
  }

  private static boolean isSpot(int spot) {
    return spot >= 0 && spot < ALL_SPOTS;
  }

  /** A sheet, MISSING or not; null if there is no such number. */
  private Sheet sheetAt(int s) {
    return s >= 0 && s < ALL_SHEETS ? sheets[s] : null;
  }

  /** What the kinds of houses have of their own, and what they have from the kind above. */
  private static final class Kinds {

    static int measure(int kind, int home, int lot) {
      int dx = home % SIDE - lot % SIDE;
      int dy = home / SIDE - lot / SIDE;
      int streets = (dx < 0 ? -dx : dx) + (dy < 0 ? -dy : dy);
      switch (kind) {
        case STREETED:
          return streets * streets;
        case TOWER:
          return streets * streets - 1;
        case CHURCH:
          return dx * dx + dy * dy + 1;
        default:
          return dx * dx + dy * dy;
      }
    }

    static boolean accepts(int kind, int home, int otherKind, int otherHome) {
      switch (kind) {
        case HUT:
          return otherKind != HUT && otherKind != RUIN;
        case RUIN:
          return false;
        case INN:
        case CHURCH:
          return measure(otherKind, otherHome, home) <= 64;
        default:
          return true;
      }
    }

    static boolean isPair(int kind, int home, int otherKind, int otherHome) {
      return accepts(kind, home, otherKind, otherHome) && accepts(otherKind, otherHome, kind, home);
    }

    static int costs(int kind) {
      switch (kind) {
        case HUT:
          return 3;
        case RUIN:
          return 4;
        case INN:
        case CHURCH:
          return 25;
        case TOWER:
          return 40;
        default:
          return 10;
      }
    }

    static int above(int kind) {
      switch (kind) {
        case HUT:
        case INN:
        case STREETED:
          return HOUSE;
        case RUIN:
          return HUT;
        case CHURCH:
          return INN;
        case TOWER:
          return STREETED;
        default:
          return NOTHING;
      }
    }

    static boolean isUnder(int kind, int top) {
      int at = kind;
      for (int step = 0; step < ALL_KINDS && at >= 0; step++) {
        if (at == top) {
          return true;
        }
        at = above(at);
      }
      return false;
    }

    static String word(int kind) {
      switch (kind) {
        case HOUSE:
          return "house";
        case HUT:
          return "hut";
        case INN:
          return "inn";
        case RUIN:
          return "ruin";
        case CHURCH:
          return "church";
        case STREETED:
          return "streeted";
        default:
          return "tower";
      }
    }
  }

  /** The houses that stand, and which lots they make free. */
  private static final class Houses {
    private int size = 0;
    private final int[] kinds = new int[MOST_HOUSES];
    private final int[] homes = new int[MOST_HOUSES];
    /** How far each is from the lot asked for last: kept here so that no call makes a row. */
    private final int[] fars = new int[MOST_HOUSES];

    int size() {
      return size;
    }

    boolean isFull() {
      return size >= MOST_HOUSES;
    }

    boolean has(int house) {
      return house >= 0 && house < size;
    }

    int kindOf(int house) {
      return has(house) ? kinds[house] : NOTHING;
    }

    int homeOf(int house) {
      return has(house) ? homes[house] : NOTHING;
    }

    void put(int kind, int lot) {
      if (!isFull()) {
        kinds[size] = kind;
        homes[size] = lot;
        size++;
      }
    }

    void burnLast() {
      if (size > 0) {
        size--;
      }
    }

    void become(int house, int kind) {
      if (has(house)) {
        kinds[house] = kind;
      }
    }

    void allBecome(int kind) {
      for (int house = 0; house < size; house++) {
        kinds[house] = kind;
      }
    }

    void move(int house, int lot) {
      if (has(house)) {
        homes[house] = lot;
      }
    }

    void becomeAs(Houses other) {
      size = other.size;
      for (int house = 0; house < MOST_HOUSES; house++) {
        kinds[house] = other.kinds[house];
        homes[house] = other.homes[house];
      }
    }

    boolean stands(int lot) {
      for (int house = 0; house < size; house++) {
        if (homes[house] == lot) {
          return true;
        }
      }
      return false;
    }

    int farOf(int house, int lot) {
      return has(house) ? Kinds.measure(kinds[house], homes[house], lot) : NOTHING;
    }

    boolean arePair(int a, int b) {
      return a != b && has(a) && has(b) && Kinds.isPair(kinds[a], homes[a], kinds[b], homes[b]);
    }

    int partners(int house) {
      int set = 0;
      for (int other = 0; other < size; other++) {
        if (arePair(house, other)) {
          set |= 1 << other;
        }
      }
      return set;
    }

    int countPairs() {
      int all = 0;
      for (int house = 0; house < size; house++) {
        all += Integer.bitCount(partners(house));
      }
      return all / 2;
    }

    private void measureAll(int lot) {
      for (int house = 0; house < size; house++) {
        fars[house] = Kinds.measure(kinds[house], homes[house], lot);
      }
    }

    /** Pairs as far from a lot, one house left out; counted up to a limit, for most ask only if there is one. */
    private int evenPairs(int lot, int without, int limit) {
      measureAll(lot);
      int found = 0;
      for (int a = 0; a < size && found < limit; a++) {
        for (int b = a + 1; b < size && found < limit; b++) {
          if (fars[a] == fars[b] && a != without && b != without
              && Kinds.isPair(kinds[a], homes[a], kinds[b], homes[b])) {
            found++;
          }
        }
      }
      return found;
    }

    /** By how many pairs a lot is free; 0 if one stands there. */
    int freeings(int lot) {
      return stands(lot) ? 0 : evenPairs(lot, NOTHING, MOST_HOUSES * MOST_HOUSES);
    }

    boolean isFree(int lot) {
      return !stands(lot) && evenPairs(lot, NOTHING, 1) > 0;
    }

    /** Of a lot that is free: if it would be so without a house. */
    boolean isFreeWithout(int lot, int house) {
      return evenPairs(lot, house, 1) > 0;
    }

    int firstPair(int lot) {
      measureAll(lot);
      for (int a = 0; a < size; a++) {
        for (int b = a + 1; b < size; b++) {
          if (fars[a] == fars[b] && arePair(a, b)) {
            return 10 * a + b;
          }
        }
      }
      return NOTHING;
    }

    int countFree() {
      int all = 0;
      for (int lot = 0; lot < ALL_LOTS; lot++) {
        if (isFree(lot)) {
          all++;
        }
      }
      return all;
    }

    int countFreeByOne() {
      int all = 0;
      for (int lot = 0; lot < ALL_LOTS; lot++) {
        if (freeings(lot) == 1) {
          all++;
        }
      }
      return all;
    }

    /** If a lot is as far from a house put up on another one as from one with which that is a pair. */
    boolean isEvenWith(int kind, int home, int lot) {
      int far = Kinds.measure(kind, home, lot);
      for (int house = 0; house < size; house++) {
        if (Kinds.measure(kinds[house], homes[house], lot) == far
            && Kinds.isPair(kinds[house], homes[house], kind, home)) {
          return true;
        }
      }
      return false;
    }
  }

  /** All of which an image is kept: houses, worth, coin, year, luck and spots. */
  private static final class Town {
    private final Houses houses = new Houses();
    private final int[] worth = new int[ALL_LOTS];
    private final int[] spots = new int[ALL_SPOTS];
    private int purse = 100;
    private int age = 0;
    private int luck = 1;

    Town() {
      Arrays.fill(spots, NOTHING);
    }

    Houses houses() {
      return houses;
    }

    int purse() {
      return purse;
    }

    void setPurse(int v) {
      purse = v;
    }

    int age() {
      return age;
    }

    int luck() {
      return luck;
    }

    void setLuck(int v) {
      luck = v;
    }

    int worthOf(int lot) {
      return lot >= 0 && lot < ALL_LOTS ? worth[lot] : 0;
    }

    void setWorth(int lot, int v) {
      if (lot >= 0 && lot < ALL_LOTS) {
        worth[lot] = v;
      }
    }

    int allWorth() {
      int all = 0;
      for (int lot = 0; lot < ALL_LOTS; lot++) {
        all += worth[lot];
      }
      return all;
    }

    /** Worth of the lots that are free, and wouldn't be so without a house. */
    int worthLost(int house) {
      int lost = 0;
      for (int lot = 0; lot < ALL_LOTS; lot++) {
        if (worth[lot] != 0 && houses.isFree(lot) && !houses.isFreeWithout(lot, house)) {
          lost += worth[lot];
        }
      }
      return lost;
    }

    int spotOf(int spot) {
      return isSpot(spot) ? spots[spot] : NOTHING;
    }

    void setSpot(int spot, int house) {
      if (isSpot(spot)) {
        spots[spot] = house;
      }
    }

    int filledSpots() {
      int filled = 0;
      for (int spot = 0; spot < ALL_SPOTS; spot++) {
        if (spots[spot] != NOTHING) {
          filled++;
        }
      }
      return filled;
    }

    void becomeAs(Town other) {
      houses.becomeAs(other.houses);
      System.arraycopy(other.worth, 0, worth, 0, ALL_LOTS);
      System.arraycopy(other.spots, 0, spots, 0, ALL_SPOTS);
      purse = other.purse;
      age = other.age;
      luck = other.luck;
    }

    boolean allows(int kind, int lot) {
      return purse >= Kinds.costs(kind) && houses.isFree(lot);
    }

    void raise(int kind, int lot) {
      houses.put(kind, lot);
      purse += worthOf(lot) - Kinds.costs(kind);
    }

    private int draw() {
      luck = luck * 1103515245 + 12345;
      return luck >>> 8;
    }

    /** So many years: how many houses are built in them. */
    int pass(int n) {
      int built = 0;
      for (int i = 0; i < n; i++) {
        int x = draw() % SIDE;
        int lot = lotOf(x, draw() % SIDE);
        int kind = draw() % ALL_KINDS;
        if (!houses.isFull() && purse >= Kinds.costs(kind) && houses.isFree(lot)) {
          raise(kind, lot);
          built++;
        }
      }
      age += n;
      return built;
    }

    void strewOne() {
      if (houses.size() > 0) {
        int house = draw() % houses.size();
        int lot = draw() % ALL_LOTS;
        if (!houses.stands(lot)) {
          houses.move(house, lot);
        }
      }
    }
  }

  /** The lots that can be had ever: those put up open others, until none is left to put up. */
  private static final class Spread {
    private final boolean[] had = new boolean[ALL_LOTS];
    private final int[] putUp = new int[ALL_LOTS];
    private int size = 0;

    boolean isHad(int lot) {
      return lot >= 0 && lot < ALL_LOTS && had[lot];
    }

    /** Finds them all, and tells how many they are. */
    int reach(Houses houses) {
      size = 0;
      for (int lot = 0; lot < ALL_LOTS; lot++) {
        had[lot] = false;
        if (houses.isFree(lot)) {
          add(lot);
        }
      }
      for (int next = 0; next < size && next < ALL_LOTS; next++) {
        for (int lot = 0; lot < ALL_LOTS; lot++) {
          if (!had[lot] && !houses.stands(lot) && isOpenedBy(houses, next, lot)) {
            add(lot);
          }
        }
      }
      return size;
    }

    private void add(int lot) {
      if (size < ALL_LOTS) {
        had[lot] = true;
        putUp[size] = lot;
        size++;
      }
    }

    /** If one put up makes a lot free, with those that stand and those put up before it. */
    private boolean isOpenedBy(Houses houses, int next, int lot) {
      int far = Kinds.measure(HOUSE, putUp[next], lot);
      for (int before = 0; before < next; before++) {
        if (Kinds.measure(HOUSE, putUp[before], lot) == far) {
          return true;
        }
      }
      return houses.isEvenWith(HOUSE, putUp[next], lot);
    }
  }

  /** The fewest houses that must be put up first until a lot is free. */
  private static final class Ladder {
    private final boolean[] free = new boolean[ALL_LOTS];
    /** Lots from which one put up makes the lot asked for free by itself, beside those that stand. */
    private final boolean[] near = new boolean[ALL_LOTS];
    private int first = NOTHING;
    private int second = NOTHING;

    int first() {
      return first;
    }

    int second() {
      return second;
    }

    /** How many, or nothing if two don't do; first() and second() are the first way then. */
    int find(Houses houses, int goal) {
      first = NOTHING;
      second = NOTHING;
      if (houses.isFree(goal)) {
        return 0;
      }
      for (int lot = 0; lot < ALL_LOTS; lot++) {
        free[lot] = houses.isFree(lot);
        near[lot] = lot != goal && !houses.stands(lot) && houses.isEvenWith(HOUSE, lot, goal);
      }
      for (int lot = 0; lot < ALL_LOTS; lot++) {
        if (free[lot] && near[lot]) {
          first = lot;
          return 1;
        }
      }
      for (int lot = 0; lot < ALL_LOTS; lot++) {
        if (free[lot] && findSecond(houses, goal, lot)) {
          first = lot;
          return 2;
        }
      }
      return NOTHING;
    }

    private boolean findSecond(Houses houses, int goal, int start) {
      int far = Kinds.measure(HOUSE, start, goal);
      for (int lot = 0; lot < ALL_LOTS; lot++) {
        boolean helps = near[lot] || Kinds.measure(HOUSE, lot, goal) == far;
        if (helps && lot != goal && lot != start && !houses.stands(lot)
            && (free[lot] || houses.isEvenWith(HOUSE, start, lot))) {
          second = lot;
          return true;
        }
      }
      return false;
    }
  }

  /** The free lot on which a house of a kind makes most lots free. */
  private static final class Openings {
    private final boolean[] free = new boolean[ALL_LOTS];
    private final boolean[] stood = new boolean[ALL_LOTS];
    private int most = NOTHING;

    /** How many lots are free when a house stands on the lot found last. */
    int most() {
      return most;
    }

    /** The lot, or nothing if none is free. */
    int find(Houses houses, int kind) {
      for (int lot = 0; lot < ALL_LOTS; lot++) {
        free[lot] = houses.isFree(lot);
        stood[lot] = houses.stands(lot);
      }
      int found = NOTHING;
      most = NOTHING;
      for (int home = 0; home < ALL_LOTS; home++) {
        int then = free[home] ? countWith(houses, kind, home) : NOTHING;
        if (then > most) {
          found = home;
          most = then;
        }
      }
      return found;
    }

    private int countWith(Houses houses, int kind, int home) {
      int all = 0;
      for (int lot = 0; lot < ALL_LOTS; lot++) {
        if (lot != home && (free[lot] || (!stood[lot] && houses.isEvenWith(kind, home, lot)))) {
          all++;
        }
      }
      return all;
    }
  }

  /** The orders in which the houses that stand can have been built. */
  private static final class History {
    private final int[] ways = new int[1 << MOST_HOUSES];
    /** By house and one ahead of it: those with whom that one makes the lot of the house free. */
    private final int[] even = new int[MOST_HOUSES * MOST_HOUSES];
    private int size = 0;

    /** How many orders; if a founder is told, only those in which it is one of the first two. */
    int tell(Houses houses, int founder) {
      prepare(houses);
      int all = (1 << size) - 1;
      ways[0] = 1;
      for (int set = 1; set <= all; set++) {
        ways[set] = waysOf(set, founder);
      }
      return ways[all];
    }

    /** The house that is last in any of the orders told, the greatest of several; or nothing. */
    int lastOne() {
      int all = (1 << size) - 1;
      for (int house = size - 1; house >= 0; house--) {
        int others = all & ~(1 << house);
        if (ways[others] > 0 && (size <= 2 || fits(house, others))) {
          return house;
        }
      }
      return NOTHING;
    }

    private void prepare(Houses houses) {
      size = Math.min(houses.size(), MOST_HOUSES);
      for (int house = 0; house < size; house++) {
        int home = houses.homeOf(house);
        for (int a = 0; a < size; a++) {
          int set = 0;
          for (int b = 0; b < size; b++) {
            if (houses.farOf(a, home) == houses.farOf(b, home) && houses.arePair(a, b)) {
              set |= 1 << b;
            }
          }
          even[MOST_HOUSES * house + a] = set;
        }
      }
    }

    private int waysOf(int set, int founder) {
      int built = Integer.bitCount(set);
      if (built <= 2) {
        return founder < 0 || (set >> founder & 1) != 0 ? built : 0;
      }
      int sum = 0;
      for (int house = 0; house < size; house++) {
        int others = set & ~(1 << house);
        if (others != set && ways[others] > 0 && fits(house, others)) {
          sum += ways[others];
        }
      }
      return sum;
    }

    private boolean fits(int house, int ahead) {
      for (int a = 0; a < size; a++) {
        if ((ahead >> a & 1) != 0 && (even[MOST_HOUSES * house + a] & ahead) != 0) {
          return true;
        }
      }
      return false;
    }
  }

  /** Bytes from which a text is read. */
  private static final class Tape {
    private final byte[] bytes = new byte[MOST_BYTES];
    private int size = 0;

    int size() {
      return size;
    }

    void put(int v) {
      if (size < MOST_BYTES) {
        bytes[size] = (byte) v;
        size++;
      }
    }

    void empty() {
      size = 0;
    }

    /** The byte at a place, 0 to 255; nothing behind the last. */
    int at(int place) {
      return place >= 0 && place < size ? bytes[place] & 255 : NOTHING;
    }
  }

  /** Reads a text, token by token, into a town. */
  private static final class Scribe {
    private static final int END = 0;
    private static final int WORD = 1;
    private static final int NUMBER = 2;
    private static final int SIGN = 3;
    private static final int OTHER = 4;

    private final Tape tape;
    private final Town into;
    /** The token read last: where it starts, where it ends, what it is, and its value. */
    private int start = 0;
    private int end = 0;
    private int type = END;
    private int value = 0;

    Scribe(Tape tape, Town into) {
      this.tape = tape;
      this.into = into;
    }

    /** How many items, or -1 less the fault. */
    int read() {
      for (int items = 1; items <= MOST_BYTES; items++) {
        advance();
        if (!isItem()) {
          return -1 - start;
        }
        advance();
        if (type == END) {
          return items;
        }
        if (type != SIGN) {
          return -1 - start;
        }
      }
      return -1 - start;
    }

    private boolean isItem() {
      for (int kind = 0; kind < ALL_KINDS; kind++) {
        if (isWord(Kinds.word(kind))) {
          return !into.houses().isFull() && isHouseItem(kind);
        }
      }
      if (isWord("worth")) {
        return isWorthItem();
      }
      return isWord("coin") && isCoinItem();
    }

    private boolean isHouseItem(int kind) {
      if (!isNextWord("at") || !isNextNumber(SIDE - 1)) {
        return false;
      }
      int x = value;
      if (!isNextNumber(SIDE - 1) || into.houses().stands(lotOf(x, value))) {
        return false;
      }
      into.houses().put(kind, lotOf(x, value));
      return true;
    }

    private boolean isWorthItem() {
      if (!isNextNumber(MOST_WORTH)) {
        return false;
      }
      int worth = value;
      if (!isNextWord("on") || !isNextNumber(SIDE - 1)) {
        return false;
      }
      int x = value;
      if (!isNextNumber(SIDE - 1)) {
        return false;
      }
      into.setWorth(lotOf(x, value), worth);
      return true;
    }

    private boolean isCoinItem() {
      if (!isNextNumber(MOST_COIN)) {
        return false;
      }
      into.setPurse(value);
      return true;
    }

    private boolean isNextWord(String word) {
      advance();
      return isWord(word);
    }

    private boolean isNextNumber(int most) {
      advance();
      return type == NUMBER && value <= most;
    }

    private boolean isWord(String word) {
      if (type != WORD || end - start != word.length()) {
        return false;
      }
      for (int i = 0; i < word.length(); i++) {
        if (tape.at(start + i) != word.charAt(i)) {
          return false;
        }
      }
      return true;
    }

    private void advance() {
      while (end < tape.size() && tape.at(end) == ' ') {
        end++;
      }
      start = end;
      int first = tape.at(start);
      if (isLetter(first)) {
        type = WORD;
        while (end < tape.size() && isLetter(tape.at(end))) {
          end++;
        }
      } else if (isDigit(first)) {
        type = NUMBER;
        value = 0;
        while (end < tape.size() && isDigit(tape.at(end))) {
          // A number above all that may be told stays there, however many digits come.
          value = value > MOST_COIN ? value : 10 * value + tape.at(end) - '0';
          end++;
        }
      } else if (first == NOTHING) {
        type = END;
      } else {
        type = first == ';' ? SIGN : OTHER;
        end++;
      }
    }

    private static boolean isLetter(int b) {
      return b >= 'a' && b <= 'z';
    }

    private static boolean isDigit(int b) {
      return b >= '0' && b <= '9';
    }
  }

  /** A row of numbers of some bits; of 0 bits it is missing. */
  private static final class Sheet {
    private int bits = 0;
    private int size = 0;
    private final int[] numbers = new int[MOST_NUMBERS];

    int bits() {
      return bits;
    }

    boolean isMissing() {
      return bits == 0;
    }

    int size() {
      return size;
    }

    void rule(int newBits, int n) {
      bits = newBits;
      size = newBits == 0 || n < 0 || n > MOST_NUMBERS ? 0 : n;
      Arrays.fill(numbers, 0);
    }

    int get(int i) {
      return i >= 0 && i < size ? numbers[i] : 0;
    }

    void set(int i, int v) {
      if (i >= 0 && i < size) {
        numbers[i] = bits == 8 ? (byte) v : bits == 16 ? (short) v : v;
      }
    }

    /** If it has n numbers from one on. */
    boolean holds(int from, int n) {
      return from >= 0 && n >= 0 && from <= size - n;
    }

    void take(int to, Sheet other, int from, int n) {
      if (holds(to, n) && other.holds(from, n)) {
        System.arraycopy(other.numbers, from, numbers, to, n);
      }
    }
  }
}
