import java.util.ArrayList;
import java.util.List;

/** A group of edges, and what their tests have in common. Each edge's test begins with a new object. */
abstract class Edges {
  static final long BEYOND = -1000001;
  static final long FULL = -1000002;
  static final long KIND = -1000003;
  static final long NONE = -1000004;
  static final long STATE = -1000005;
  static final long MISSING = -1000006;
  static final long SIZE = -1000007;

  static final int PERSON = 0, STRONG = 1, OLD = 2, LENDER = 3, BEGGAR = 4, TWIN = 5, DUELLIST = 6;
  static final int MIN = Integer.MIN_VALUE;
  static final int MAX = Integer.MAX_VALUE;
  static final int ALL_HOURS = 65535;

  private final List<Edge> edges = new ArrayList<>();
  private int promise = 0;
  private Checks checks = new Checks();
  SharedShadow x = new SharedShadow();

  interface Call {
    long on(SharedShadow land);
  }

  final List<Edge> edges() {
    return edges;
  }

  /** The edges that follow are of this promise's section; 0: of the Terms. */
  final void promise(int number) {
    promise = number;
  }

  final void edge(String sentence, String what, Edge.Break broken, Runnable test) {
    edges.add(new Edge(promise, sentence, what, broken, test));
  }

  static Edge.Break broken(String from, String old, String put) {
    return new Edge.Break(from, old, put);
  }

  /** Whether an edge's test holds; it tells each answer that isn't as due. */
  final boolean holds(Edge edge) {
    checks = new Checks();
    x = new SharedShadow();
    edge.test().run();
    return checks.isClean() && checks.asked() > 0;
  }

  final void due(long got, long want) {
    checks.due("a call", got, want);
  }

  final void is(boolean isSo) {
    checks.holds("what should be", isSo);
  }

  /** Each call answers this finding, and status() counts it once. */
  final void refused(long finding, Call... calls) {
    int which = (int) (BEYOND - finding);
    for (Call call : calls) {
      int all = x.status(-1);
      int such = x.status(which);
      due(call.on(x), finding);
      due(x.status(which), such + 1);
      due(x.status(-1), all + 1);
    }
  }

  final void people(int... kinds) {
    for (int kind : kinds) {
      x.person(kind);
    }
  }

  /** So many people, all alike. */
  final void crowd(int n) {
    for (int i = 0; i < n; i++) {
      x.person(PERSON);
    }
  }

  final void suns(int... suns) {
    for (int p = 0; p < suns.length; p++) {
      x.change(p, 1, suns[p]);
    }
  }

  final void strengths(int... strengths) {
    for (int p = 0; p < strengths.length; p++) {
      x.change(p, 2, strengths[p]);
    }
  }

  final void needs(int... sets) {
    for (int p = 0; p < sets.length; p++) {
      x.change(p, 3, sets[p]);
    }
  }

  final void row(int s, int bits, int... numbers) {
    x.sheet(s, bits, numbers.length);
    for (int i = 0; i < numbers.length; i++) {
      x.write(s, i, numbers[i]);
    }
  }

  final void feed(String text) {
    for (int i = 0; i < text.length(); i++) {
      x.feed(text.charAt(i), 1);
    }
  }

  final int read(String text) {
    feed(text);
    return x.text();
  }

  /** The text's FAULT is at this place. */
  final void fault(String text, int place) {
    due(read(text), -1 - place);
  }

  /** Two of like claims with one shadow: 0 has it at even HOURS, 1 at odd ones, for each HOUR turns the claim. */
  final void alternating() {
    crowd(2);
    x.share(0, 1);
  }
}
