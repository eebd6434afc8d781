/** The land in which two people share one shadow: its public face. README.md tells how to use it. */
public final class SharedShadow {
  private static final int LOW = -1000001;
  private static final int BEYOND = 0;
  private static final int FULL = 1;
  private static final int KIND = 2;
  private static final int NONE = 3;
  private static final int STATE = 4;
  private static final int MISSING = 5;
  private static final int SIZE = 6;
  private static final int FINDINGS = 7;
  private static final int NO_FINDING = -1;

  private static final int MOST_PEOPLE = 8;
  private static final int DAY = 16;
  private static final int ALL_HOURS = 65535;
  private static final int DUEL_HOUR = 8;
  private static final int DUEL_HELP = 3;
  private static final int MOST_SUN = 99;
  private static final int MOST_STRENGTH = 9;
  private static final int FIRST_STRENGTH = 3;
  private static final int MOST_DAYS = 20;
  private static final int TOO_MUCH = 90000;
  private static final int NOBODY = -1;

  private static final int KINDS = 7;
  private static final int STRONG = 1;
  private static final int OLD = 2;
  private static final int LENDER = 3;
  private static final int BEGGAR = 4;
  private static final int TWIN = 5;
  private static final int DUELLIST = 6;

  private static final int SPOTS = 10;
  private static final int SHEETS = 4;
  private static final int MOST_NUMBERS = 40;
  private static final int MOST_LANTERNS = 15;
  private static final int TENTHS = 10;

  private final Land land = new Land();
  private final Land kept = new Land();
  private final Rest rest = new Rest();
  private final Agreement agreement = new Agreement();
  private final Pairings pairings = new Pairings();
  private final Reader reader = new Reader();
  private final Tape tape = reader.tape;
  private final Sheet[] sheets = new Sheet[SHEETS];
  private final int[] findings = new int[FINDINGS];
  private boolean isKept = false;

  public SharedShadow() {
    for (int s = 0; s < SHEETS; s++) {
      sheets[s] = new Sheet();
    }
  }

  // ---- people, pairs, light

  public int person(int kind) {
    if (!isWithin(kind, KINDS - 1)) {
      return found(BEYOND);
    }
    if (land.isFull()) {
      return found(FULL);
    }
    return land.add(kind);
  }

  public int of(int person, int what) {
    if (!land.isPerson(person)) {
      return found(BEYOND);
    }
    switch (what) {
      case 0:
        return land.kind[person];
      case 1:
        return land.sun[person];
      case 2:
        return land.strength[person];
      case 3:
        return land.needs[person];
      case 4:
        return land.partner[person];
      case 5:
        return land.hour < DAY ? land.claimOf(person, land.hour) : 0;
      case 6:
        return bit(land.havers(), person);
      default:
        return found(BEYOND);
    }
  }

  public int change(int person, int what, int v) {
    if (!land.isPerson(person)) {
      return found(BEYOND);
    }
    switch (what) {
      case 0:
        return replace(land.kind, person, v, KINDS - 1);
      case 1:
        return replace(land.sun, person, v, MOST_SUN);
      case 2:
        return replace(land.strength, person, v, MOST_STRENGTH);
      case 3:
        return replace(land.needs, person, v, ALL_HOURS);
      default:
        return found(BEYOND);
    }
  }

  public int share(int a, int b) {
    if (!land.areTwo(a, b)) {
      return found(BEYOND);
    }
    if (land.partner[a] == b) {
      return 0;
    }
    land.join(a, b);
    return 1;
  }

  public int part(int person) {
    if (!land.isPerson(person)) {
      return found(BEYOND);
    }
    int other = land.partner[person];
    if (other == NOBODY) {
      return found(NONE);
    }
    land.separate(person);
    return other;
  }

  public int light(int set) {
    if (!isWithin(set, ALL_HOURS)) {
      return found(BEYOND);
    }
    int was = land.lit;
    land.lit = set;
    return was;
  }

  public int claim(int person, int hour) {
    if (!land.isPerson(person) || !isWithin(hour, DAY - 1)) {
      return found(BEYOND);
    }
    return land.claimOf(person, hour);
  }

  // ---- hours

  public int go(int n) {
    if (n < 1 || n > DAY) {
      return found(BEYOND);
    }
    if (n > DAY - land.hour) {
      return found(STATE);
    }
    land.passHours(n);
    return land.wereMet;
  }

  public int at(int v) {
    if (!isWithin(v, DAY)) {
      return found(BEYOND);
    }
    int was = land.hour;
    land.hour = v;
    return was;
  }

  public int now(int what) {
    switch (what) {
      case 0:
        return land.hour;
      case 1:
        return land.wereMet;
      case 2:
        return land.wereMissed;
      case 3:
        return land.lit;
      case 4:
        return land.havers();
      default:
        return found(BEYOND);
    }
  }

  // ---- what will be (nothing changes)

  public int met(int person) {
    if (!land.isPerson(person)) {
      return found(BEYOND);
    }
    rest.see(land);
    return rest.metOf(person);
  }

  public int cold(int person) {
    if (!land.isPerson(person)) {
      return found(BEYOND);
    }
    rest.see(land);
    int hour = rest.firstCold(person);
    return hour < DAY ? hour : found(NONE);
  }

  public int shade(int person) {
    if (!land.isPerson(person)) {
      return found(BEYOND);
    }
    rest.see(land);
    return rest.shadeOf(person);
  }

  public int all() {
    rest.see(land);
    return rest.metOfAll();
  }

  public int tan(int person) {
    if (!land.isPerson(person)) {
      return found(BEYOND);
    }
    rest.see(land);
    return rest.sunOf(person);
  }

  public int strong(int person) {
    if (!land.isPerson(person)) {
      return found(BEYOND);
    }
    for (int strength = 0; strength <= MOST_STRENGTH; strength++) {
      rest.begin(land);
      rest.to.strength[person] = strength;
      rest.run();
      if (rest.firstCold(person) == DAY) {
        return strength;
      }
    }
    return found(NONE);
  }

  public int kindFor(int person) {
    if (!land.isPerson(person)) {
      return found(BEYOND);
    }
    int best = 0;
    int most = -1;
    for (int kind = 0; kind < KINDS; kind++) {
      rest.begin(land);
      rest.to.kind[person] = kind;
      rest.run();
      if (rest.metOf(person) > most) {
        most = rest.metOf(person);
        best = kind;
      }
    }
    return best;
  }

  public int cloud() {
    rest.see(land);
    int most = rest.metOfAll();
    int best = -1;
    for (int hour = 0; hour < DAY; hour++) {
      rest.begin(land);
      rest.to.lit ^= 1 << hour;
      rest.run();
      if (rest.metOfAll() > most) {
        most = rest.metOfAll();
        best = hour;
      }
    }
    return best;
  }

  // ---- agreements

  public int agree(int a, int b) {
    if (!land.areTwo(a, b)) {
      return found(BEYOND);
    }
    agreement.make(land, a, b);
    return agreement.metOfBoth();
  }

  public int changes(int a, int b) {
    if (!land.areTwo(a, b)) {
      return found(BEYOND);
    }
    agreement.make(land, a, b);
    return agreement.countChanges();
  }

  public int holder(int a, int b, int hour) {
    if (!land.areTwo(a, b) || !isWithin(hour, DAY - 1)) {
      return found(BEYOND);
    }
    agreement.make(land, a, b);
    int who = agreement.holderAt(hour);
    return who == NOBODY ? found(NONE) : who;
  }

  public int gain(int a, int b) {
    if (!land.areTwo(a, b)) {
      return found(BEYOND);
    }
    agreement.make(land, a, b);
    rest.begin(land);
    rest.to.join(a, b);
    rest.run();
    return agreement.metOfBoth() - rest.metOf(a) - rest.metOf(b);
  }

  // ---- pairings

  public int pairs() {
    weighByAgreements();
    return pairings.bestOf(land.everybody());
  }

  public int mate(int person) {
    if (!land.isPerson(person)) {
      return found(BEYOND);
    }
    weighByAgreements();
    return pairings.firstMateOf(person, land.everybody());
  }

  public int ways() {
    weighByAgreements();
    return pairings.waysOf(land.everybody());
  }

  public int broken() {
    rest.see(land);
    for (int a = 0; a < land.people; a++) {
      for (int b = a + 1; b < land.people; b++) {
        if (land.partner[a] != b && wouldRatherAgree(a, b)) {
          return 10 * a + b;
        }
      }
    }
    return found(NONE);
  }

  // ---- shade that was seen

  public int fits(int s) {
    int lack = lackOf(s);
    if (lack != NO_FINDING) {
      return found(lack);
    }
    return weighByShade(sheets[s]) ? pairings.waysOf(land.everybody()) : 0;
  }

  public int may(int s, int person) {
    int lack = lackOf(s);
    if (lack != NO_FINDING) {
      return found(lack);
    }
    if (!land.isPerson(person)) {
      return found(BEYOND);
    }
    return weighByShade(sheets[s]) ? pairings.matesOf(person, land.everybody()) : 0;
  }

  // ---- duels, lanterns, draws

  public int duel(int a, int b) {
    if (!land.areTwo(a, b)) {
      return found(BEYOND);
    }
    int lesser = Math.min(a, b);
    int greater = Math.max(a, b);
    return duelForce(greater, lesser) > duelForce(lesser, greater) ? greater : lesser;
  }

  public long lanterns(int n, int m, int what) {
    if (!isWithin(n, MOST_LANTERNS) || !isWithin(m, TENTHS) || !isWithin(what, 1)) {
      return found(BEYOND);
    }
    int hidden = TENTHS - m;
    int divisor = commonDivisor(hidden, TENTHS);
    return power((what == 0 ? hidden : TENTHS) / divisor, n);
  }

  public int days(int n) {
    if (n < 1 || n > MOST_DAYS) {
      return found(BEYOND);
    }
    if (land.wereMet > TOO_MUCH || land.wereMissed > TOO_MUCH) {
      return found(STATE);
    }
    for (int i = 0; i < n; i++) {
      land.lit = land.draw() & ALL_HOURS;
      land.hour = 0;
      land.passHours(DAY);
    }
    return land.wereMet;
  }

  public int seed(int v) {
    int was = land.drawn;
    land.drawn = v;
    return was;
  }

  // ---- texts

  public int feed(int bytes, int n) {
    if (n < 1 || n > Tape.MOST_AT_ONCE) {
      return found(BEYOND);
    }
    if (n > Tape.MOST_BYTES - tape.length) {
      return found(FULL);
    }
    for (int i = n - 1; i >= 0; i--) {
      tape.append(bytes >>> (8 * i));
    }
    return tape.length;
  }

  public int wipe() {
    int had = tape.length;
    tape.length = 0;
    return had;
  }

  public int text() {
    int answer = reader.read(land);
    tape.length = 0;
    return answer;
  }

  // ---- spots, sheets

  public int hold(int spot, int person) {
    if (!isWithin(spot, SPOTS - 1) || (person != NOBODY && !land.isPerson(person))) {
      return found(BEYOND);
    }
    land.spots[spot] = person;
    return 1;
  }

  public int as(int spot, int kind) {
    if (!isWithin(spot, SPOTS - 1) || !isWithin(kind, KINDS - 1)) {
      return found(BEYOND);
    }
    int person = land.spots[spot];
    if (person == NOBODY) {
      return found(MISSING);
    }
    return land.isOfKind(person, kind) ? person : found(KIND);
  }

  public int sheet(int s, int bits, int n) {
    if (!isSheet(s) || !(bits == 0 || bits == 8 || bits == 16 || bits == 32)) {
      return found(BEYOND);
    }
    if (n < 0) {
      return found(SIZE);
    }
    if (n > MOST_NUMBERS) {
      return found(BEYOND);
    }
    sheets[s].renew(bits, n);
    return sheets[s].length;
  }

  public int write(int s, int i, int v) {
    int lack = lackOf(s);
    if (lack != NO_FINDING) {
      return found(lack);
    }
    if (!isWithin(i, sheets[s].length - 1)) {
      return found(BEYOND);
    }
    sheets[s].put(i, v);
    return 1;
  }

  public int copy(int s, int from, int t, int to, int n) {
    if (!isSheet(s) || !isSheet(t)) {
      return found(BEYOND);
    }
    if (sheets[s].isMissing() || sheets[t].isMissing()) {
      return found(MISSING);
    }
    if (sheets[s].bits != sheets[t].bits) {
      return found(KIND);
    }
    if (!sheets[s].hasRun(from, n) || !sheets[t].hasRun(to, n)) {
      return found(BEYOND);
    }
    System.arraycopy(sheets[s].numbers, from, sheets[t].numbers, to, n);
    return n;
  }

  public int load(int s) {
    int lack = lackOf(s);
    if (lack != NO_FINDING) {
      return found(lack);
    }
    int most = Math.min(sheets[s].length, land.people);
    for (int i = 0; i < most; i++) {
      if (!isWithin(sheets[s].numbers[i], MOST_SUN)) {
        return i;
      }
      land.sun[i] = sheets[s].numbers[i];
    }
    return most;
  }

  public int judge(int s) {
    int lack = lackOf(s);
    if (lack != NO_FINDING) {
      return found(lack);
    }
    rest.see(land);
    for (int i = 0; i < sheets[s].length; i++) {
      if (!rest.isShadowSet(land.hour + i, sheets[s].numbers[i])) {
        return 1 + i;
      }
    }
    return 0;
  }

  // ---- images

  public int image() {
    kept.become(land);
    isKept = true;
    return 1;
  }

  public int undo() {
    if (!isKept) {
      return found(NONE);
    }
    land.become(kept);
    return land.hour;
  }

  public int tear() {
    int was = isKept ? 1 : 0;
    isKept = false;
    return was;
  }

  public int count(int what) {
    switch (what) {
      case 0:
        return land.hour;
      case 1:
        return land.people;
      case 2:
        return land.countMated();
      case 3:
        return land.wereMet;
      case 4:
        return land.sunOfAll();
      case 5:
        return tape.length;
      case 6:
        return land.drawn;
      case 7:
        return land.countHeld();
      default:
        return found(BEYOND);
    }
  }

  public int status(int which) {
    if (which == -1) {
      return sum(findings);
    }
    return isWithin(which, FINDINGS - 1) ? findings[which] : found(BEYOND);
  }

  // ---- what the face's calls have in common

  private int found(int finding) {
    findings[finding]++;
    return LOW - finding;
  }

  private static boolean isSheet(int s) {
    return isWithin(s, SHEETS - 1);
  }

  private int lackOf(int s) {
    if (!isSheet(s)) {
      return BEYOND;
    }
    return sheets[s].isMissing() ? MISSING : NO_FINDING;
  }

  private int replace(int[] row, int person, int v, int most) {
    if (!isWithin(v, most)) {
      return found(BEYOND);
    }
    int was = row[person];
    row[person] = v;
    return was;
  }

  private void weighByAgreements() {
    for (int a = 0; a < land.people; a++) {
      pairings.value(a, a, Integer.bitCount(land.needs[a] & land.hoursLeft()));
      for (int b = a + 1; b < land.people; b++) {
        agreement.make(land, a, b);
        pairings.value(a, b, agreement.metOfBoth());
      }
    }
    pairings.weigh(land.everybody());
  }

  // No pair's shadow hangs on another pair's, so each is run by itself; false: no PAIRING can be so.
  private boolean weighByShade(Sheet told) {
    if (!told.tellsSetsOf(land.everybody(), DAY - land.hour)) {
      return false;
    }
    for (int a = 0; a < land.people; a++) {
      for (int b = a; b < land.people; b++) {
        rest.begin(land);
        rest.to.separate(a);
        rest.to.join(a, b);
        rest.run();
        pairings.value(a, b, rest.isShadeOf(a, told) && rest.isShadeOf(b, told) ? 0 : Pairings.NEVER);
      }
    }
    pairings.weigh(land.everybody());
    return true;
  }

  // a is below b: the AGREEMENT's sides are 0 and 1 in this order.
  private boolean wouldRatherAgree(int a, int b) {
    agreement.make(land, a, b);
    return agreement.metOfSide(0) > rest.metOf(a) && agreement.metOfSide(1) > rest.metOf(b);
  }

  private int duelForce(int person, int against) {
    boolean hasShadow = bit(land.lit, DUEL_HOUR) == 1 && land.stronger(person, against, DUEL_HOUR) == person;
    return land.strength[person] + (hasShadow ? DUEL_HELP : 0);
  }

  private static boolean isWithin(int v, int most) {
    return v >= 0 && v <= most;
  }

  private static int bit(int set, int place) {
    return set >>> place & 1;
  }

  private static int sum(int[] row) {
    int all = 0;
    for (int v : row) {
      all += v;
    }
    return all;
  }

  private static int commonDivisor(int a, int b) {
    for (int d = Math.max(a, b); d > 1; d--) {
      if (a % d == 0 && b % d == 0) {
        return d;
      }
    }
    return 1;
  }

  private static long power(int base, int times) {
    long all = 1;
    for (int i = 0; i < times; i++) {
      all *= base;
    }
    return all;
  }

  /** All that an image keeps: people, light, the hour, what was met, the draws, the spots. */
  private static final class Land {
    private static final int[] UNDER = {-1, 0, 0, 2, 3, 0, 1};

    final int[] kind = new int[MOST_PEOPLE];
    final int[] sun = new int[MOST_PEOPLE];
    final int[] strength = new int[MOST_PEOPLE];
    final int[] needs = new int[MOST_PEOPLE];
    final int[] partner = new int[MOST_PEOPLE];
    final int[] spots = new int[SPOTS];
    int people = 0;
    int lit = ALL_HOURS;
    int hour = 0;
    int wereMet = 0;
    int wereMissed = 0;
    int drawn = 1;

    Land() {
      for (int s = 0; s < SPOTS; s++) {
        spots[s] = NOBODY;
      }
    }

    void become(Land other) {
      System.arraycopy(other.kind, 0, kind, 0, MOST_PEOPLE);
      System.arraycopy(other.sun, 0, sun, 0, MOST_PEOPLE);
      System.arraycopy(other.strength, 0, strength, 0, MOST_PEOPLE);
      System.arraycopy(other.needs, 0, needs, 0, MOST_PEOPLE);
      System.arraycopy(other.partner, 0, partner, 0, MOST_PEOPLE);
      System.arraycopy(other.spots, 0, spots, 0, SPOTS);
      people = other.people;
      lit = other.lit;
      hour = other.hour;
      wereMet = other.wereMet;
      wereMissed = other.wereMissed;
      drawn = other.drawn;
    }

    boolean isFull() {
      return people >= MOST_PEOPLE;
    }

    boolean isPerson(int p) {
      return p >= 0 && p < people;
    }

    boolean areTwo(int a, int b) {
      return isPerson(a) && isPerson(b) && a != b;
    }

    int everybody() {
      return (1 << people) - 1;
    }

    int hoursLeft() {
      return ALL_HOURS << hour & ALL_HOURS;
    }

    int add(int newKind) {
      if (isFull()) {
        return NOBODY;
      }
      kind[people] = newKind;
      sun[people] = 0;
      strength[people] = FIRST_STRENGTH;
      needs[people] = 0;
      partner[people] = NOBODY;
      people++;
      return people - 1;
    }

    void join(int a, int b) {
      if (areTwo(a, b)) {
        separate(a);
        separate(b);
        partner[a] = b;
        partner[b] = a;
      }
    }

    void separate(int person) {
      if (isPerson(person) && isPerson(partner[person])) {
        partner[partner[person]] = NOBODY;
        partner[person] = NOBODY;
      }
    }

    boolean isOfKind(int person, int wanted) {
      if (!isPerson(person)) {
        return false;
      }
      int k = kind[person];
      for (int level = 0; level < KINDS; level++) {
        if (k == wanted) {
          return true;
        }
        if (!isWithin(k, KINDS - 1)) {
          return false;
        }
        k = UNDER[k];
      }
      return false;
    }

    int claimOf(int person, int at) {
      if (person < 0 || person >= people) {
        return 0;
      }
      boolean isEven = at % 2 == 0;
      int own = sun[person];
      switch (kind[person]) {
        case STRONG:
          return own + 2 * strength[person];
        case OLD:
          return own + 10;
        case LENDER:
          return (own + 10) / 2;
        case BEGGAR:
          return isEven ? (own + 10) / 2 : 0;
        case TWIN:
          return isEven == (person % 2 == 0) ? 50 : 0;
        case DUELLIST:
          return at == DUEL_HOUR ? 99 : own + 2 * strength[person];
        default:
          return own;
      }
    }

    int stronger(int a, int b, int at) {
      int lesser = Math.min(a, b);
      int greater = Math.max(a, b);
      return claimOf(greater, at) > claimOf(lesser, at) ? greater : lesser;
    }

    int havers() {
      if (hour >= DAY || bit(lit, hour) == 0) {
        return 0;
      }
      int set = 0;
      for (int p = 0; p < people; p++) {
        if (partner[p] == NOBODY || stronger(p, partner[p], hour) == p) {
          set |= 1 << p;
        }
      }
      return set;
    }

    void passHours(int n) {
      for (int i = 0; i < n && hour < DAY; i++) {
        passHour(havers());
      }
    }

    void passHour(int have) {
      boolean isLit = bit(lit, hour) == 1;
      for (int p = 0; p < people; p++) {
        boolean has = bit(have, p) == 1;
        if (bit(needs[p], hour) == 1) {
          tally(has || !isLit);
        }
        if (isLit) {
          sun[p] = has ? Math.max(sun[p] - 1, 0) : Math.min(sun[p] + 1, MOST_SUN);
        }
      }
      hour++;
    }

    private void tally(boolean isMet) {
      if (isMet) {
        wereMet++;
      } else {
        wereMissed++;
      }
    }

    int draw() {
      drawn = drawn * 1103515245 + 12345;
      return drawn >>> 8;
    }

    int countMated() {
      int all = 0;
      for (int p = 0; p < people; p++) {
        all += partner[p] == NOBODY ? 0 : 1;
      }
      return all;
    }

    int sunOfAll() {
      int all = 0;
      for (int p = 0; p < people; p++) {
        all += sun[p];
      }
      return all;
    }

    int countHeld() {
      int all = 0;
      for (int person : spots) {
        all += person == NOBODY ? 0 : 1;
      }
      return all;
    }
  }

  /** THE REST of a day, run on a copy of the land. */
  private static final class Rest {
    final Land to = new Land();
    private final int[] have = new int[DAY];
    private int first = 0;
    private int left = 0;

    void see(Land from) {
      begin(from);
      run();
    }

    void begin(Land from) {
      to.become(from);
      first = from.hour;
      left = from.hoursLeft();
    }

    void run() {
      for (int h = first; h < DAY; h++) {
        have[h] = to.havers();
        to.passHour(have[h]);
      }
    }

    int shadeOf(int person) {
      int set = 0;
      for (int h = 0; h < DAY; h++) {
        if (bit(left, h) == 1 && bit(have[h], person) == 1) {
          set |= 1 << h;
        }
      }
      return set;
    }

    private int servedOf(int person) {
      return (~to.needs[person] | ~to.lit | shadeOf(person)) & left;
    }

    int metOf(int person) {
      return to.isPerson(person) ? Integer.bitCount(to.needs[person] & servedOf(person)) : 0;
    }

    int metOfAll() {
      int all = 0;
      for (int p = 0; p < to.people; p++) {
        all += metOf(p);
      }
      return all;
    }

    /** The first HOUR that leaves a person cold, DAY if none does. */
    int firstCold(int person) {
      if (!to.isPerson(person)) {
        return DAY;
      }
      int unserved = left & ~servedOf(person);
      for (int h = 0; h < DAY; h++) {
        if (bit(unserved, h) == 1) {
          return h;
        }
      }
      return DAY;
    }

    int sunOf(int person) {
      return to.isPerson(person) ? to.sun[person] : 0;
    }

    boolean isShadowSet(int hour, int set) {
      return hour >= first && hour < DAY && have[hour] == set;
    }

    boolean isShadeOf(int person, Sheet told) {
      for (int h = first; h < DAY && h - first < told.length; h++) {
        if (bit(have[h], person) != bit(told.numbers[h - first], person)) {
          return false;
        }
      }
      return true;
    }
  }

  /** The best AGREEMENT of two: the lesser number is side 0, the greater side 1. */
  private static final class Agreement {
    // One more NEED that is met outweighs all changes of a day.
    private static final int WORTH = 100;

    private final int[] who = new int[2];
    private final int[] needs = new int[2];
    private final int[] held = new int[2];
    private final int[] behind = new int[2 * (DAY + 1)];
    private int shared = 0;
    private int dark = 0;

    void make(Land land, int a, int b) {
      if (!land.areTwo(a, b)) {
        return;
      }
      who[0] = Math.min(a, b);
      who[1] = Math.max(a, b);
      needs[0] = land.needs[who[0]];
      needs[1] = land.needs[who[1]];
      shared = land.hoursLeft() & land.lit;
      dark = land.hoursLeft() & ~land.lit;
      weighBehind();
      choose();
    }

    // behind[2 * h + side]: the best from HOUR h on, if that side had the shadow ahead of it.
    private void weighBehind() {
      behind[2 * DAY] = 0;
      behind[2 * DAY + 1] = 0;
      for (int h = DAY - 1; h >= 0; h--) {
        for (int side = 0; side < 2; side++) {
          int stay = worthOf(side, h);
          int turn = worthOf(1 - side, h) - 1;
          behind[2 * h + side] = bit(shared, h) == 1 ? Math.max(stay, turn) : behind[2 * h + 2 + side];
        }
      }
    }

    private int worthOf(int side, int hour) {
      return WORTH * bit(needs[side], hour) + behind[2 * hour + 2 + side];
    }

    private void choose() {
      held[0] = 0;
      held[1] = 0;
      int ahead = NOBODY;
      for (int h = 0; h < DAY; h++) {
        if (bit(shared, h) == 1) {
          int lesser = worthOf(0, h) - (ahead == 1 ? 1 : 0);
          int greater = worthOf(1, h) - (ahead == 0 ? 1 : 0);
          ahead = greater > lesser ? 1 : 0;
          held[ahead] |= 1 << h;
        }
      }
    }

    int holderAt(int hour) {
      if (bit(shared, hour) == 0) {
        return NOBODY;
      }
      return who[bit(held[1], hour)];
    }

    int metOfSide(int side) {
      return isWithin(side, 1) ? Integer.bitCount(needs[side] & (dark | held[side])) : 0;
    }

    int metOfBoth() {
      return metOfSide(0) + metOfSide(1);
    }

    int countChanges() {
      int all = 0;
      int ahead = NOBODY;
      for (int h = 0; h < DAY; h++) {
        if (bit(shared, h) == 1) {
          int side = bit(held[1], h);
          all += ahead == NOBODY || ahead == side ? 0 : 1;
          ahead = side;
        }
      }
      return all;
    }
  }

  /** All PAIRINGS of people, weighed set by set: what the best reach, and how many reach it. */
  private static final class Pairings {
    static final int NEVER = -1;

    private final int[] values = new int[MOST_PEOPLE * MOST_PEOPLE];
    private final int[] best = new int[1 << MOST_PEOPLE];
    private final int[] number = new int[1 << MOST_PEOPLE];

    /** What a pair brings, a below b; of one and the same: what it brings to be alone. */
    void value(int a, int b, int v) {
      if (isWithin(a, MOST_PEOPLE - 1) && isWithin(b, MOST_PEOPLE - 1)) {
        values[a * MOST_PEOPLE + b] = v;
      }
    }

    private int valueOf(int a, int b) {
      return values[Math.min(a, b) * MOST_PEOPLE + Math.max(a, b)];
    }

    void weigh(int everybody) {
      best[0] = 0;
      number[0] = 1;
      for (int set = 1; set <= everybody && set < best.length; set++) {
        weighSet(set);
      }
    }

    private void weighSet(int set) {
      int first = leastOf(set);
      best[set] = NEVER;
      number[set] = 0;
      for (int other = first; other < MOST_PEOPLE; other++) {
        int worth = worthWith(set, first, other);
        if (worth > best[set]) {
          best[set] = worth;
          number[set] = 0;
        }
        if (worth != NEVER && worth == best[set]) {
          number[set] += number[without(set, first, other)];
        }
      }
    }

    /** The best of a set in which these two are a pair (or the same one alone), or NEVER. */
    private int worthWith(int set, int a, int b) {
      boolean isAllowed = bit(set, b) == 1 && (a != b || Integer.bitCount(set) % 2 == 1);
      if (!isAllowed || valueOf(a, b) == NEVER || best[without(set, a, b)] == NEVER) {
        return NEVER;
      }
      return valueOf(a, b) + best[without(set, a, b)];
    }

    private static int without(int set, int a, int b) {
      return set & ~(1 << a) & ~(1 << b);
    }

    private static int leastOf(int set) {
      for (int p = 0; p < MOST_PEOPLE - 1; p++) {
        if (bit(set, p) == 1) {
          return p;
        }
      }
      return MOST_PEOPLE - 1;
    }

    int bestOf(int everybody) {
      return isWithin(everybody, best.length - 1) ? best[everybody] : 0;
    }

    int waysOf(int everybody) {
      return isWithin(everybody, number.length - 1) ? number[everybody] : 0;
    }

    int firstMateOf(int person, int everybody) {
      int set = everybody & best.length - 1;
      for (int i = 0; i < MOST_PEOPLE && set != 0; i++) {
        int first = leastOf(set);
        int other = firstBest(set, first);
        if (first == person) {
          return other == first ? NOBODY : other;
        }
        if (other == person) {
          return first;
        }
        set = without(set, first, other);
      }
      return NOBODY;
    }

    private int firstBest(int set, int first) {
      for (int other = first; other < MOST_PEOPLE; other++) {
        if (worthWith(set, first, other) == best[set]) {
          return other;
        }
      }
      return first;
    }

    int matesOf(int person, int everybody) {
      int mates = 0;
      int set = everybody & best.length - 1;
      for (int other = 0; other < MOST_PEOPLE; other++) {
        if (isWithin(person, MOST_PEOPLE - 1) && worthWith(set, person, other) != NEVER) {
          mates |= 1 << other;
        }
      }
      return mates;
    }
  }

  /** A row of numbers of 8, 16 or 32 bits; of no bits: it is MISSING. */
  private static final class Sheet {
    final int[] numbers = new int[MOST_NUMBERS];
    int bits = 0;
    int length = 0;

    boolean isMissing() {
      return bits == 0;
    }

    void renew(int newBits, int newLength) {
      bits = newBits;
      length = newBits == 0 ? 0 : Math.max(0, Math.min(newLength, MOST_NUMBERS));
      for (int i = 0; i < MOST_NUMBERS; i++) {
        numbers[i] = 0;
      }
    }

    void put(int i, int v) {
      if (isWithin(i, length - 1)) {
        numbers[i] = bits == 8 ? (byte) v : bits == 16 ? (short) v : v;
      }
    }

    // Not 'from + n': that could wrap around.
    boolean hasRun(int from, int n) {
      return from >= 0 && n >= 0 && n <= length && from <= length - n;
    }

    boolean tellsSetsOf(int everybody, int hours) {
      for (int i = 0; i < length && i < hours; i++) {
        if ((numbers[i] & ~everybody) != 0) {
          return false;
        }
      }
      return true;
    }
  }

  /** THE TAPE: bytes that a text is read from. */
  private static final class Tape {
    static final int MOST_BYTES = 120;
    static final int MOST_AT_ONCE = 4;

    private final int[] bytes = new int[MOST_BYTES];
    int length = 0;

    void append(int b) {
      if (length < MOST_BYTES) {
        bytes[length] = b & 255;
        length++;
      }
    }

    int byteAt(int place) {
      return place >= 0 && place < length ? bytes[place] : -1;
    }
  }

  /** Reads a TEXT from THE TAPE: all TOKENS first, then ITEM by ITEM into a draft of the land. */
  private static final class Reader {
    private static final int END = 0;
    private static final int WORD = 1;
    private static final int NUMBER = 2;
    private static final int SIGN = 3;
    private static final int BLANK = 4;
    private static final int OTHER = 5;
    private static final int MOST_NUMBER = 99999;
    private static final int MOST_TOKENS = Tape.MOST_BYTES + 1;

    final Tape tape = new Tape();
    private final Land draft = new Land();
    private final int[] types = new int[MOST_TOKENS];
    private final int[] places = new int[MOST_TOKENS];
    private final int[] ends = new int[MOST_TOKENS];
    // Of a NUMBER: what it tells, or one more than any may tell.
    private final int[] values = new int[MOST_TOKENS];
    private int tokens = 0;
    private int next = 0;

    /** How many ITEMS; or, the land left as it was, -1 less the FAULT. */
    int read(Land land) {
      split();
      draft.become(land);
      for (int items = 1; items < MOST_TOKENS && readItem(); items++) {
        if (isNext(END)) {
          land.become(draft);
          return items;
        }
        if (!isNext(SIGN)) {
          break;
        }
        step();
      }
      return -1 - places[next];
    }

    private void split() {
      tokens = 0;
      next = 0;
      for (int i = 0; i < tape.length; i++) {
        int type = typeOf(tape.byteAt(i));
        boolean isOfRun = type == WORD || type == NUMBER;
        if (!isOfRun || typeOf(tape.byteAt(i - 1)) != type) {
          beginToken(type, i);
        }
        if (isOfRun) {
          lengthenToken(i);
        }
      }
      beginToken(END, tape.length);
    }

    private void beginToken(int type, int place) {
      if (type != BLANK && tokens < MOST_TOKENS) {
        types[tokens] = type;
        places[tokens] = place;
        values[tokens] = 0;
        tokens++;
      }
    }

    private void lengthenToken(int place) {
      int last = tokens - 1;
      if (last >= 0) {
        ends[last] = place + 1;
        values[last] = Math.min(10 * values[last] + tape.byteAt(place) - '0', MOST_NUMBER + 1);
      }
    }

    private static int typeOf(int b) {
      if (b >= 'a' && b <= 'z') {
        return WORD;
      }
      if (b >= '0' && b <= '9') {
        return NUMBER;
      }
      if (b == ' ') {
        return BLANK;
      }
      return b == ';' ? SIGN : OTHER;
    }

    // The readers below are false as soon as a TOKEN can't stand there: that one is next then.

    private boolean readItem() {
      if (kindOfWord() >= 0) {
        return readPerson();
      }
      if (isWord("share")) {
        return readShare();
      }
      if (isWord("light")) {
        return readLight();
      }
      return isWord("hour") && readHour();
    }

    private boolean readLight() {
      step();
      int set = values[next];
      if (!takeNumber(ALL_HOURS)) {
        return false;
      }
      draft.lit = set;
      return true;
    }

    private boolean readHour() {
      step();
      int hour = values[next];
      if (!takeNumber(DAY)) {
        return false;
      }
      draft.hour = hour;
      return true;
    }

    private boolean readPerson() {
      if (draft.isFull()) {
        return false;
      }
      int person = draft.add(kindOfWord());
      step();
      return readTrait("sun", draft.sun, person, MOST_SUN)
          && readTrait("strength", draft.strength, person, MOST_STRENGTH)
          && readTrait("needs", draft.needs, person, ALL_HOURS);
    }

    private boolean readTrait(String word, int[] row, int person, int most) {
      if (!isWord(word)) {
        return true;
      }
      step();
      int trait = values[next];
      if (!takeNumber(most) || !isWithin(person, row.length - 1)) {
        return false;
      }
      row[person] = trait;
      return true;
    }

    private boolean readShare() {
      step();
      int a = values[next];
      if (!takeNumber(draft.people - 1)) {
        return false;
      }
      int b = values[next];
      if (b == a || !takeNumber(draft.people - 1)) {
        return false;
      }
      draft.join(a, b);
      return true;
    }

    private void step() {
      if (next < tokens - 1) {
        next++;
      }
    }

    private boolean isNext(int type) {
      return types[next] == type;
    }

    private boolean takeNumber(int most) {
      if (!isNext(NUMBER) || values[next] > most) {
        return false;
      }
      step();
      return true;
    }

    private boolean isWord(String word) {
      if (!isNext(WORD) || ends[next] - places[next] != word.length()) {
        return false;
      }
      for (int i = 0; i < word.length(); i++) {
        if (tape.byteAt(places[next] + i) != word.charAt(i)) {
          return false;
        }
      }
      return true;
    }

    private int kindOfWord() {
      if (isWord("person")) {
        return 0;
      }
      if (isWord("strong")) {
        return STRONG;
      }
      if (isWord("old")) {
        return OLD;
      }
      if (isWord("lender")) {
        return LENDER;
      }
      if (isWord("beggar")) {
        return BEGGAR;
      }
      if (isWord("twin")) {
        return TWIN;
      }
      return isWord("duellist") ? DUELLIST : -1;
    }
  }
}
