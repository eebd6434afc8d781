import java.math.BigInteger;
import java.util.ArrayList;
import java.util.Arrays;
import java.util.List;
import java.util.regex.Matcher;
import java.util.regex.Pattern;

/** The document once more, by the slowest and plainest ways (all agreements, all pairings tried one by one). */
final class Model {
  private static final int BEYOND = 0, FULL = 1, KIND = 2, NONE = 3, STATE = 4, MISSING = 5, SIZE = 6;
  private static final List<String> KINDS =
      List.of("person", "strong", "old", "lender", "beggar", "twin", "duellist");

  static final class Somebody {
    int kind, sun, strength = 3, needs, mate = -1;

    Somebody(int kind) {
      this.kind = kind;
    }

    Somebody twin() {
      Somebody other = new Somebody(kind);
      other.sun = sun;
      other.strength = strength;
      other.needs = needs;
      other.mate = mate;
      return other;
    }
  }

  static final class World {
    List<Somebody> people = new ArrayList<>();
    int light = 0xFFFF, hour = 0, met = 0, missed = 0, z = 1;
    int[] spots = new int[10];

    World() {
      Arrays.fill(spots, -1);
    }

    World twin() {
      World other = new World();
      for (Somebody s : people) {
        other.people.add(s.twin());
      }
      other.light = light;
      other.hour = hour;
      other.met = met;
      other.missed = missed;
      other.z = z;
      other.spots = spots.clone();
      return other;
    }

    boolean isLit(int h) {
      return (light >> h) % 2 == 1;
    }

    boolean needs(int p, int h) {
      return (people.get(p).needs >> h) % 2 == 1;
    }

    int claim(int p, int h) {
      Somebody s = people.get(p);
      switch (KINDS.get(s.kind)) {
        case "strong": return s.sun + s.strength + s.strength;
        case "old": return s.sun + 10;
        case "lender": return (s.sun + 10) / 2;
        case "beggar": return h % 2 == 1 ? 0 : (s.sun + 10) / 2;
        case "twin": return (h + p) % 2 == 0 ? 50 : 0;
        case "duellist": return h == 8 ? 99 : s.sun + s.strength + s.strength;
        default: return s.sun;
      }
    }

    boolean has(int p, int h) {
      if (!isLit(h)) {
        return false;
      }
      int m = people.get(p).mate;
      if (m < 0) {
        return true;
      }
      int mine = claim(p, h), others = claim(m, h);
      return mine > others || mine == others && p < m;
    }

    void pass() {
      List<Boolean> have = new ArrayList<>();
      for (int p = 0; p < people.size(); p++) {
        have.add(has(p, hour));
      }
      for (int p = 0; p < people.size(); p++) {
        if (needs(p, hour)) {
          if (have.get(p) || !isLit(hour)) met++; else missed++;
        }
        if (isLit(hour)) {
          Somebody s = people.get(p);
          if (have.get(p)) { if (s.sun > 0) s.sun--; } else { if (s.sun < 99) s.sun++; }
        }
      }
      hour++;
    }

    void part(int p) {
      int m = people.get(p).mate;
      if (m >= 0) {
        people.get(m).mate = -1;
        people.get(p).mate = -1;
      }
    }

    void marry(int a, int b) {
      part(a);
      part(b);
      people.get(a).mate = b;
      people.get(b).mate = a;
    }

    /** Who has a shadow, hour by hour of the rest, if all goes on. */
    List<Integer> history() {
      World w = twin();
      List<Integer> sets = new ArrayList<>();
      while (w.hour < 16) {
        int set = 0;
        for (int p = 0; p < w.people.size(); p++) {
          if (w.has(p, w.hour)) set += 1 << p;
        }
        sets.add(set);
        w.pass();
      }
      return sets;
    }

    boolean served(int p, int h, List<Integer> history) {
      return !needs(p, h) || !isLit(h) || (history.get(h - hour) >> p) % 2 == 1;
    }

    int met(int p) {
      List<Integer> history = history();
      int n = 0;
      for (int h = hour; h < 16; h++) {
        if (needs(p, h) && served(p, h, history)) n++;
      }
      return n;
    }

    int cold(int p) {
      List<Integer> history = history();
      for (int h = hour; h < 16; h++) {
        if (!served(p, h, history)) return h;
      }
      return 16;
    }

    int all() {
      int n = 0;
      for (int p = 0; p < people.size(); p++) n += met(p);
      return n;
    }

    int needsLeft(int p) {
      int n = 0;
      for (int h = hour; h < 16; h++) {
        if (needs(p, h)) n++;
      }
      return n;
    }

    int darkNeeds(int p) {
      int n = 0;
      for (int h = hour; h < 16; h++) {
        if (needs(p, h) && !isLit(h)) n++;
      }
      return n;
    }
  }

  /** The best agreement, found by trying all: [met by a, met by b, changes, holder at hour 0, ..]. */
  private int[] agreement(int x, int y) {
    int a = Math.min(x, y), b = Math.max(x, y);
    List<Integer> hours = new ArrayList<>();
    for (int h = w.hour; h < 16; h++) {
      if (w.isLit(h)) hours.add(h);
    }
    int n = hours.size();
    int bestMet = -1, bestChanges = 0, bestTry = 0, bestA = 0, bestB = 0;
    // The first hour is the highest digit, and the lesser number the digit 0: tries come in the order of hours.
    for (int t = 0; t < 1 << n; t++) {
      int metA = 0, metB = 0, changes = 0;
      for (int i = 0; i < n; i++) {
        int digit = t >> (n - 1 - i) & 1;
        if (digit == 0 && w.needs(a, hours.get(i))) metA++;
        if (digit == 1 && w.needs(b, hours.get(i))) metB++;
        if (i > 0 && digit != (t >> (n - i) & 1)) changes++;
      }
      if (metA + metB > bestMet || metA + metB == bestMet && changes < bestChanges) {
        bestMet = metA + metB;
        bestChanges = changes;
        bestTry = t;
        bestA = metA;
        bestB = metB;
      }
    }
    int[] answer = new int[19];
    Arrays.fill(answer, -1);
    answer[0] = bestA + w.darkNeeds(a);
    answer[1] = bestB + w.darkNeeds(b);
    answer[2] = bestChanges;
    for (int i = 0; i < n; i++) {
      answer[3 + hours.get(i)] = (bestTry >> (n - 1 - i) & 1) == 0 ? a : b;
    }
    return answer;
  }

  /** All pairings, the first of them first: rows of mates, -1 for alone. */
  private static void pairings(int[] mates, boolean mayBeAlone, List<int[]> all) {
    int p = 0;
    while (p < mates.length && mates[p] != -2) p++;
    if (p == mates.length) {
      all.add(mates.clone());
      return;
    }
    if (mayBeAlone) {
      mates[p] = -1;
      pairings(mates, false, all);
    }
    for (int q = p + 1; q < mates.length; q++) {
      if (mates[q] == -2) {
        mates[p] = q;
        mates[q] = p;
        pairings(mates, mayBeAlone, all);
        mates[q] = -2;
      }
    }
    mates[p] = -2;
  }

  private List<int[]> pairings() {
    int[] none = new int[w.people.size()];
    Arrays.fill(none, -2);
    List<int[]> all = new ArrayList<>();
    pairings(none, none.length % 2 == 1, all);
    return all;
  }

  private List<int[]> bestPairings() {
    int n = w.people.size();
    int[][] worth = new int[n][n];
    for (int a = 0; a < n; a++) {
      for (int b = a + 1; b < n; b++) {
        int[] best = agreement(a, b);
        worth[a][b] = best[0] + best[1];
      }
    }
    List<int[]> best = new ArrayList<>();
    bestMeets = -1;
    for (int[] mates : pairings()) {
      int meets = 0;
      for (int p = 0; p < n; p++) {
        if (mates[p] == -1) meets += w.needsLeft(p);
        if (mates[p] > p) meets += worth[p][mates[p]];
      }
      if (meets > bestMeets) {
        bestMeets = meets;
        best.clear();
      }
      if (meets == bestMeets) best.add(mates);
    }
    return best;
  }

  private List<int[]> fitting(int s) {
    List<int[]> fit = new ArrayList<>();
    for (int[] mates : pairings()) {
      World other = w.twin();
      for (int p = 0; p < mates.length; p++) other.people.get(p).mate = mates[p];
      List<Integer> history = other.history();
      boolean isSo = true;
      for (int i = 0; i < sheets[s].length && i < history.size(); i++) {
        isSo &= history.get(i) == sheets[s][i];
      }
      if (isSo) fit.add(mates);
    }
    return fit;
  }

  private World w = new World();
  private World kept = null;
  private final List<Integer> tape = new ArrayList<>();
  private final int[][] sheets = new int[4][];
  private final int[] bits = new int[4];
  private final int[] found = new int[7];
  private int bestMeets;

  private int find(int what) {
    found[what]++;
    return -1000001 - what;
  }

  private boolean isPerson(int p) {
    return p >= 0 && p < w.people.size();
  }

  private boolean areTwo(int a, int b) {
    return isPerson(a) && isPerson(b) && a != b;
  }

  public int person(int kind) {
    if (kind < 0 || kind > 6) return find(BEYOND);
    if (w.people.size() == 8) return find(FULL);
    w.people.add(new Somebody(kind));
    return w.people.size() - 1;
  }

  public int of(int person, int what) {
    if (!isPerson(person) || what < 0 || what > 6) return find(BEYOND);
    Somebody s = w.people.get(person);
    int[] told = {s.kind, s.sun, s.strength, s.needs, s.mate, 0, 0};
    if (w.hour < 16) {
      told[5] = w.claim(person, w.hour);
      told[6] = w.has(person, w.hour) ? 1 : 0;
    }
    return told[what];
  }

  public int change(int person, int what, int v) {
    int[] most = {6, 99, 9, 65535};
    if (!isPerson(person) || what < 0 || what > 3 || v < 0 || v > most[what]) return find(BEYOND);
    int was = of(person, what);
    Somebody s = w.people.get(person);
    if (what == 0) s.kind = v;
    if (what == 1) s.sun = v;
    if (what == 2) s.strength = v;
    if (what == 3) s.needs = v;
    return was;
  }

  public int share(int a, int b) {
    if (!areTwo(a, b)) return find(BEYOND);
    if (w.people.get(a).mate == b) return 0;
    w.marry(a, b);
    return 1;
  }

  public int part(int person) {
    if (!isPerson(person)) return find(BEYOND);
    int was = w.people.get(person).mate;
    if (was < 0) return find(NONE);
    w.part(person);
    return was;
  }

  public int light(int set) {
    if (set < 0 || set > 65535) return find(BEYOND);
    int was = w.light;
    w.light = set;
    return was;
  }

  public int claim(int person, int hour) {
    if (!isPerson(person) || hour < 0 || hour > 15) return find(BEYOND);
    return w.claim(person, hour);
  }

  public int go(int n) {
    if (n < 1 || n > 16) return find(BEYOND);
    if (w.hour + n > 16) return find(STATE);
    for (int i = 0; i < n; i++) w.pass();
    return w.met;
  }

  public int at(int v) {
    if (v < 0 || v > 16) return find(BEYOND);
    int was = w.hour;
    w.hour = v;
    return was;
  }

  public int now(int what) {
    if (what < 0 || what > 4) return find(BEYOND);
    int have = w.hour < 16 ? w.history().get(0) : 0;
    return new int[] {w.hour, w.met, w.missed, w.light, have}[what];
  }

  public int met(int person) {
    return isPerson(person) ? w.met(person) : find(BEYOND);
  }

  public int cold(int person) {
    if (!isPerson(person)) return find(BEYOND);
    return w.cold(person) < 16 ? w.cold(person) : find(NONE);
  }

  public int shade(int person) {
    if (!isPerson(person)) return find(BEYOND);
    int set = 0, h = w.hour;
    for (int have : w.history()) set |= (have >> person & 1) << h++;
    return set;
  }

  public int all() {
    return w.all();
  }

  public int tan(int person) {
    if (!isPerson(person)) return find(BEYOND);
    World other = w.twin();
    while (other.hour < 16) other.pass();
    return other.people.get(person).sun;
  }

  public int strong(int person) {
    if (!isPerson(person)) return find(BEYOND);
    for (int s = 0; s < 10; s++) {
      World other = w.twin();
      other.people.get(person).strength = s;
      if (other.cold(person) == 16) return s;
    }
    return find(NONE);
  }

  public int kindFor(int person) {
    if (!isPerson(person)) return find(BEYOND);
    int best = -1, most = -1;
    for (int k = 6; k >= 0; k--) {
      World other = w.twin();
      other.people.get(person).kind = k;
      if (other.met(person) >= most) {
        most = other.met(person);
        best = k;
      }
    }
    return best;
  }

  public int cloud() {
    int best = -1, most = w.all();
    for (int h = 0; h < 16; h++) {
      World other = w.twin();
      other.light = other.isLit(h) ? other.light - (1 << h) : other.light + (1 << h);
      if (other.all() > most) {
        most = other.all();
        best = h;
      }
    }
    return best;
  }

  public int agree(int a, int b) {
    if (!areTwo(a, b)) return find(BEYOND);
    return agreement(a, b)[0] + agreement(a, b)[1];
  }

  public int changes(int a, int b) {
    return areTwo(a, b) ? agreement(a, b)[2] : find(BEYOND);
  }

  public int holder(int a, int b, int hour) {
    if (!areTwo(a, b) || hour < 0 || hour > 15) return find(BEYOND);
    if (!w.isLit(hour) || hour < w.hour) return find(NONE);
    return agreement(a, b)[3 + hour];
  }

  public int gain(int a, int b) {
    if (!areTwo(a, b)) return find(BEYOND);
    World other = w.twin();
    other.marry(a, b);
    return agreement(a, b)[0] + agreement(a, b)[1] - other.met(a) - other.met(b);
  }

  public int pairs() {
    bestPairings();
    return bestMeets;
  }

  public int mate(int person) {
    return isPerson(person) ? bestPairings().get(0)[person] : find(BEYOND);
  }

  public int ways() {
    return bestPairings().size();
  }

  public int broken() {
    for (int a = 0; a < w.people.size(); a++) {
      for (int b = a + 1; b < w.people.size(); b++) {
        int[] best = agreement(a, b);
        if (w.people.get(a).mate != b && best[0] > w.met(a) && best[1] > w.met(b)) return 10 * a + b;
      }
    }
    return find(NONE);
  }

  public int fits(int s) {
    if (s < 0 || s > 3) return find(BEYOND);
    if (sheets[s] == null) return find(MISSING);
    return fitting(s).size();
  }

  public int may(int s, int person) {
    if (s < 0 || s > 3) return find(BEYOND);
    if (sheets[s] == null) return find(MISSING);
    if (!isPerson(person)) return find(BEYOND);
    int set = 0;
    for (int[] mates : fitting(s)) set |= 1 << (mates[person] < 0 ? person : mates[person]);
    return set;
  }

  public int duel(int a, int b) {
    if (!areTwo(a, b)) return find(BEYOND);
    World other = w.twin();
    other.marry(a, b);
    int forceA = w.people.get(a).strength + (other.has(a, 8) ? 3 : 0);
    int forceB = w.people.get(b).strength + (other.has(b, 8) ? 3 : 0);
    return forceA == forceB ? Math.min(a, b) : forceA > forceB ? a : b;
  }

  public long lanterns(int n, int m, int what) {
    if (n < 0 || n > 15 || m < 0 || m > 10 || what < 0 || what > 1) return find(BEYOND);
    BigInteger above = BigInteger.valueOf(10 - m).pow(n), below = BigInteger.TEN.pow(n);
    BigInteger common = above.gcd(below);
    return (what == 0 ? above : below).divide(common).longValueExact();
  }

  public int days(int n) {
    if (n < 1 || n > 20) return find(BEYOND);
    if (w.met > 90000 || w.missed > 90000) return find(STATE);
    for (int i = 0; i < n; i++) {
      BigInteger z = BigInteger.valueOf(w.z).multiply(BigInteger.valueOf(1103515245)).add(BigInteger.valueOf(12345));
      w.z = z.intValue();
      w.light = (int) ((w.z & 0xFFFFFFFFL) / 256 % 65536);
      w.hour = 0;
      while (w.hour < 16) w.pass();
    }
    return w.met;
  }

  public int seed(int v) {
    int was = w.z;
    w.z = v;
    return was;
  }

  public int feed(int bytes, int n) {
    if (n < 1 || n > 4) return find(BEYOND);
    if (tape.size() + n > 120) return find(FULL);
    byte[] four = {(byte) (bytes >> 24), (byte) (bytes >> 16), (byte) (bytes >> 8), (byte) bytes};
    for (int i = 4 - n; i < 4; i++) tape.add(four[i] & 255);
    return tape.size();
  }

  public int wipe() {
    int had = tape.size();
    tape.clear();
    return had;
  }

  static final class Fault extends RuntimeException {
    final int place;

    Fault(int place) {
      this.place = place;
    }
  }

  /** Tokens by a pattern, asked for one by one. */
  private static final class Tokens {
    private static final Pattern TOKEN = Pattern.compile(" *(?:([a-z]+)|([0-9]+)|(;)|(?s:(.))|$)");
    private final Matcher m;
    String word, digits;
    boolean isSign, isEnd;
    int place;

    Tokens(String text) {
      m = TOKEN.matcher(text);
      next();
    }

    void next() {
      if (isEnd) return;
      if (!m.find()) throw new IllegalStateException();
      word = m.group(1);
      digits = m.group(2);
      isSign = m.group(3) != null;
      isEnd = word == null && digits == null && !isSign && m.group(4) == null;
      place = m.end();
      for (int g = 1; g <= 4; g++) {
        if (m.group(g) != null) place = m.start(g);
      }
    }

    int number(int most, int not) {
      if (digits == null) throw new Fault(place);
      BigInteger v = new BigInteger(digits);
      if (v.compareTo(BigInteger.valueOf(most)) > 0 || v.intValue() == not) throw new Fault(place);
      next();
      return v.intValue();
    }

    boolean take(String wanted) {
      if (!wanted.equals(word)) return false;
      next();
      return true;
    }
  }

  private static void item(Tokens t, World w) {
    int kind = t.word == null ? -1 : KINDS.indexOf(t.word);
    if (kind >= 0) {
      if (w.people.size() == 8) throw new Fault(t.place);
      Somebody s = new Somebody(kind);
      w.people.add(s);
      t.next();
      if (t.take("sun")) s.sun = t.number(99, -1);
      if (t.take("strength")) s.strength = t.number(9, -1);
      if (t.take("needs")) s.needs = t.number(65535, -1);
    } else if (t.take("share")) {
      int a = t.number(w.people.size() - 1, -1);
      w.marry(a, t.number(w.people.size() - 1, a));
    } else if (t.take("light")) {
      w.light = t.number(65535, -1);
    } else if (t.take("hour")) {
      w.hour = t.number(16, -1);
    } else {
      throw new Fault(t.place);
    }
  }

  public int text() {
    StringBuilder read = new StringBuilder();
    for (int b : tape) read.append((char) b);
    tape.clear();
    World draft = w.twin();
    try {
      Tokens t = new Tokens(read.toString());
      int items = 0;
      for (;;) {
        item(t, draft);
        items++;
        if (t.isEnd) {
          w = draft;
          return items;
        }
        if (!t.isSign) throw new Fault(t.place);
        t.next();
      }
    } catch (Fault f) {
      return -1 - f.place;
    }
  }

  public int hold(int spot, int person) {
    if (spot < 0 || spot > 9 || person != -1 && !isPerson(person)) return find(BEYOND);
    w.spots[spot] = person;
    return 1;
  }

  public int as(int spot, int kind) {
    if (spot < 0 || spot > 9 || kind < 0 || kind > 6) return find(BEYOND);
    if (w.spots[spot] < 0) return find(MISSING);
    List<List<Integer>> lines =
        List.of(List.of(0), List.of(1, 0), List.of(2, 0), List.of(3, 2, 0), List.of(4, 3, 2, 0), List.of(5, 0), List.of(6, 1, 0));
    return lines.get(w.people.get(w.spots[spot]).kind).contains(kind) ? w.spots[spot] : find(KIND);
  }

  public int sheet(int s, int bitsNow, int n) {
    if (s < 0 || s > 3 || !List.of(0, 8, 16, 32).contains(bitsNow)) return find(BEYOND);
    if (n < 0) return find(SIZE);
    if (n > 40) return find(BEYOND);
    bits[s] = bitsNow;
    sheets[s] = bitsNow == 0 ? null : new int[n];
    return bitsNow == 0 ? 0 : n;
  }

  public int write(int s, int i, int v) {
    if (s < 0 || s > 3) return find(BEYOND);
    if (sheets[s] == null) return find(MISSING);
    if (i < 0 || i >= sheets[s].length) return find(BEYOND);
    sheets[s][i] = v << (32 - bits[s]) >> (32 - bits[s]);
    return 1;
  }

  public int copy(int s, int from, int t, int to, int n) {
    if (s < 0 || s > 3 || t < 0 || t > 3) return find(BEYOND);
    if (sheets[s] == null || sheets[t] == null) return find(MISSING);
    if (bits[s] != bits[t]) return find(KIND);
    if (from < 0 || to < 0 || n < 0) return find(BEYOND);
    if ((long) from + n > sheets[s].length || (long) to + n > sheets[t].length) return find(BEYOND);
    int[] were = sheets[s].clone();
    for (int i = 0; i < n; i++) sheets[t][to + i] = were[from + i];
    return n;
  }

  public int load(int s) {
    if (s < 0 || s > 3) return find(BEYOND);
    if (sheets[s] == null) return find(MISSING);
    int came = 0;
    for (int v : sheets[s]) {
      if (v < 0 || v > 99 || came >= w.people.size()) break;
      w.people.get(came++).sun = v;
    }
    return came;
  }

  public int judge(int s) {
    if (s < 0 || s > 3) return find(BEYOND);
    if (sheets[s] == null) return find(MISSING);
    List<Integer> history = w.history();
    for (int i = 0; i < sheets[s].length; i++) {
      if (i >= history.size() || history.get(i) != sheets[s][i]) return i + 1;
    }
    return 0;
  }

  public int image() {
    kept = w.twin();
    return 1;
  }

  public int undo() {
    if (kept == null) return find(NONE);
    w = kept.twin();
    return w.hour;
  }

  public int tear() {
    int was = kept == null ? 0 : 1;
    kept = null;
    return was;
  }

  public int count(int what) {
    if (what < 0 || what > 7) return find(BEYOND);
    int mated = 0, sun = 0, held = 0;
    for (Somebody s : w.people) {
      mated += s.mate < 0 ? 0 : 1;
      sun += s.sun;
    }
    for (int p : w.spots) held += p < 0 ? 0 : 1;
    return new int[] {w.hour, w.people.size(), mated, w.met, sun, tape.size(), w.z, held}[what];
  }

  public int status(int which) {
    if (which < -1 || which > 6) return find(BEYOND);
    return which == -1 ? Arrays.stream(found).sum() : found[which];
  }
}
