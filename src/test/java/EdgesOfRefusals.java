import java.util.ArrayList;
import java.util.List;

/** The Terms: an act that answers a finding changes nothing but status(), and what only tells changes nothing. */
final class EdgesOfRefusals extends Edges {
  private static final String NOTHING = "one that answers a finding changes nothing but status()";
  private static final String ONLY_TELLS = "what will be (nothing changes)";

  EdgesOfRefusals() {
    promise(0);
    people();
    hours();
    texts();
    spots();
    sheets();
    copies();
    images();
    asked();
    told();
  }

  private interface Act {
    void on(SharedShadow land);
  }

  /** People, MATES, sun, needs, a day begun, SPOTS, SHEETS, a text on THE TAPE, an image that isn't as all is now. */
  private static void village(SharedShadow s) {
    s.person(OLD);
    s.person(STRONG);
    s.person(TWIN);
    s.share(0, 1);
    for (int p = 0; p < 3; p++) {
      s.change(p, 1, 4 + p);
      s.change(p, 2, 5 + p);
      s.change(p, 3, 0b1011011 << p);
    }
    s.light(0x0FF7);
    s.seed(77);
    s.hold(2, 1);
    s.hold(5, 2);
    s.image();
    s.change(0, 1, 9);
    s.go(4);
    s.feed('o' << 16 | 'l' << 8 | 'd', 3);
    s.sheet(0, 8, 3);
    s.write(0, 0, 1);
    s.write(0, 1, 2);
    s.write(0, 2, 3);
    s.sheet(1, 16, 2);
    s.write(1, 0, 40);
    s.write(1, 1, 50);
    s.sheet(3, 32, 0);
  }

  private static void fullVillage(SharedShadow s) {
    village(s);
    for (int i = 0; i < 5; i++) {
      s.person(DUELLIST);
    }
  }

  private static void nearlyFullTape(SharedShadow s) {
    village(s);
    s.wipe();
    for (int i = 0; i < 29; i++) {
      s.feed(' ' << 24 | ' ' << 16 | ' ' << 8 | ' ', 4);
    }
    s.feed('h' << 8 | 'o', 2);
  }

  private static void muchMet(SharedShadow s) {
    for (int p = 0; p < 8; p++) {
      s.person(PERSON);
      s.change(p, 3, ALL_HOURS);
    }
    for (int i = 0; i < 36; i++) {
      s.days(20);
    }
  }

  private static void tornVillage(SharedShadow s) {
    village(s);
    s.tear();
  }

  /** Two like lands, these calls refused by one of them: then both answer all alike. */
  private void unchanged(Act prepare, long finding, Call... calls) {
    SharedShadow other = new SharedShadow();
    prepare.on(other);
    prepare.on(x);
    refused(finding, calls);
    is(answers(x).equals(answers(other)));
  }

  private void unchangedBy(Act asked) {
    SharedShadow other = new SharedShadow();
    village(other);
    village(x);
    asked.on(x);
    is(answers(x).equals(answers(other)));
    due(x.status(-1) - other.status(-1), 0);
  }

  private static List<Long> answers(SharedShadow s) {
    List<Long> all = new ArrayList<>();
    lookAt(s, all);
    all.add((long) s.text());
    lookAt(s, all);
    lookAtSheets(s, all);
    all.add((long) s.undo());
    lookAt(s, all);
    return all;
  }

  private static void lookAt(SharedShadow s, List<Long> all) {
    for (int what = 0; what < 8; what++) {
      all.add((long) s.count(what));
    }
    for (int what = 0; what < 5; what++) {
      all.add((long) s.now(what));
    }
    for (int p = 0; p < 8; p++) {
      for (int what = 0; what < 7; what++) {
        all.add((long) s.of(p, what));
      }
    }
    for (int spot = 0; spot < 10; spot++) {
      all.add((long) s.as(spot, 0));
    }
  }

  private static void lookAtSheets(SharedShadow s, List<Long> all) {
    for (int one = 0; one < 4; one++) {
      for (int other = 0; other < 4; other++) {
        all.add((long) s.copy(one, 0, other, 0, 0));
      }
      all.add((long) s.load(one));
      for (int p = 0; p < 4; p++) {
        all.add((long) s.of(p, 1));
        all.add((long) s.write(one, p, 0));
      }
    }
  }

  private void people() {
    edge(NOTHING, "person(), BEYOND",
        broken("public int person", "return found(BEYOND)", "land.add(0);\n      return found(BEYOND)"),
        () -> unchanged(EdgesOfRefusals::village, BEYOND, s -> s.person(7), s -> s.person(-1)));
    edge(NOTHING, "person(), FULL",
        broken("public int person", "return found(FULL)", "land.kind[7] = kind;\n      return found(FULL)"),
        () -> unchanged(EdgesOfRefusals::fullVillage, FULL, s -> s.person(0), s -> s.person(4)));
    edge(NOTHING, "change(), no such v",
        broken("int replace(", "return found(BEYOND)", "row[person] = most;\n      return found(BEYOND)"),
        () -> unchanged(EdgesOfRefusals::village, BEYOND, s -> s.change(0, 0, 7), s -> s.change(0, 1, 100),
            s -> s.change(1, 2, -1), s -> s.change(2, 3, 65536)));
    edge(NOTHING, "change(), no such PERSON or what",
        broken("public int change", "default:", "default:\n        land.sun[person] = 0;"),
        () -> unchanged(EdgesOfRefusals::village, BEYOND, s -> s.change(3, 1, 5), s -> s.change(-1, 1, 5),
            s -> s.change(0, 4, 2), s -> s.change(1, -1, 2)));
    edge(NOTHING, "share(), BEYOND",
        broken("public int share", "return found(BEYOND)", "land.separate(a);\n      return found(BEYOND)"),
        () -> unchanged(EdgesOfRefusals::village, BEYOND, s -> s.share(0, 0), s -> s.share(1, 3), s -> s.share(3, 1),
            s -> s.share(-1, 0)));
    edge(NOTHING, "part(), BEYOND",
        broken("public int part", "return found(BEYOND)", "land.separate(0);\n      return found(BEYOND)"),
        () -> unchanged(EdgesOfRefusals::village, BEYOND, s -> s.part(3), s -> s.part(-1)));
    edge(NOTHING, "part(), NONE",
        broken("public int part", "return found(NONE)", "land.separate(0);\n      return found(NONE)"),
        () -> unchanged(EdgesOfRefusals::village, NONE, s -> s.part(2)));
    edge(NOTHING, "light(), BEYOND",
        broken("public int light", "return found(BEYOND)", "land.lit = set & ALL_HOURS;\n      return found(BEYOND)"),
        () -> unchanged(EdgesOfRefusals::village, BEYOND, s -> s.light(65536), s -> s.light(-1)));
  }

  private void hours() {
    edge(NOTHING, "go(), BEYOND",
        broken("public int go", "return found(BEYOND)", "land.passHours(n);\n      return found(BEYOND)"),
        () -> unchanged(EdgesOfRefusals::village, BEYOND, s -> s.go(0), s -> s.go(17), s -> s.go(-1)));
    edge(NOTHING, "go(), STATE",
        broken("public int go", "return found(STATE)", "land.passHours(n);\n      return found(STATE)"),
        () -> unchanged(EdgesOfRefusals::village, STATE, s -> s.go(13), s -> s.go(16)));
    edge(NOTHING, "at(), BEYOND",
        broken("public int at", "return found(BEYOND)", "land.hour = v & 15;\n      return found(BEYOND)"),
        () -> unchanged(EdgesOfRefusals::village, BEYOND, s -> s.at(17), s -> s.at(-1)));
    edge(NOTHING, "days(), BEYOND",
        broken("public int days", "return found(BEYOND)", "land.draw();\n      return found(BEYOND)"),
        () -> unchanged(EdgesOfRefusals::village, BEYOND, s -> s.days(0), s -> s.days(21)));
    edge(NOTHING, "days(), STATE",
        broken("public int days", "return found(STATE)", "land.draw();\n      return found(STATE)"),
        () -> unchanged(EdgesOfRefusals::muchMet, STATE, s -> s.days(1), s -> s.days(20)));
  }

  private void texts() {
    edge(NOTHING, "feed(), BEYOND",
        broken("public int feed", "return found(BEYOND)", "tape.append(bytes);\n      return found(BEYOND)"),
        () -> unchanged(EdgesOfRefusals::village, BEYOND, s -> s.feed(' ', 0), s -> s.feed(' ', 5)));
    edge(NOTHING, "feed(), FULL: nor the bytes for which there is room",
        broken("public int feed", "return found(FULL)", "tape.append(bytes);\n      return found(FULL)"),
        () -> unchanged(EdgesOfRefusals::nearlyFullTape, FULL, s -> s.feed('u' << 16 | 'r' << 8, 3),
            s -> s.feed(0, 4)));
  }

  private void spots() {
    edge(NOTHING, "hold(), BEYOND",
        broken("public int hold(", "return found(BEYOND)", "land.spots[2] = NOBODY;\n      return found(BEYOND)"),
        () -> unchanged(EdgesOfRefusals::village, BEYOND, s -> s.hold(2, 3), s -> s.hold(2, -2), s -> s.hold(10, 0),
            s -> s.hold(-1, 0)));
    edge(NOTHING, "as(), BEYOND",
        broken("public int as", "return found(BEYOND)", "land.spots[2] = NOBODY;\n      return found(BEYOND)"),
        () -> unchanged(EdgesOfRefusals::village, BEYOND, s -> s.as(2, 7), s -> s.as(10, 0)));
    edge(NOTHING, "as(), MISSING",
        broken("public int as", "return found(MISSING)", "land.spots[spot] = 0;\n      return found(MISSING)"),
        () -> unchanged(EdgesOfRefusals::village, MISSING, s -> s.as(0, 0), s -> s.as(9, 6)));
    edge(NOTHING, "as(), KIND",
        broken("boolean isOfKind(", "return true;\n        }",
            "return true;\n        }\n        kind[person] = wanted;"),
        () -> unchanged(EdgesOfRefusals::village, KIND, s -> s.as(2, TWIN), s -> s.as(5, STRONG)));
  }

  private void sheets() {
    edge(NOTHING, "sheet(), other bits",
        broken("public int sheet", "return found(BEYOND)", "sheets[0].renew(8, 1);\n      return found(BEYOND)"),
        () -> unchanged(EdgesOfRefusals::village, BEYOND, s -> s.sheet(0, 24, 1), s -> s.sheet(4, 8, 1),
            s -> s.sheet(-1, 0, 0)));
    edge(NOTHING, "sheet(), SIZE",
        broken("public int sheet", "return found(SIZE)", "sheets[s].renew(bits, 0);\n      return found(SIZE)"),
        () -> unchanged(EdgesOfRefusals::village, SIZE, s -> s.sheet(0, 8, -1), s -> s.sheet(1, 0, -1),
            s -> s.sheet(2, 8, -1)));
    edge(NOTHING, "sheet(), n above 40",
        broken("n > MOST_NUMBERS", "return found(BEYOND)", "sheets[s].renew(bits, n);\n      return found(BEYOND)"),
        () -> unchanged(EdgesOfRefusals::village, BEYOND, s -> s.sheet(0, 8, 41), s -> s.sheet(1, 0, 41),
            s -> s.sheet(2, 8, 41)));
    edge(NOTHING, "write(), no such number",
        broken("public int write", "return found(BEYOND)", "sheets[s].put(0, v);\n      return found(BEYOND)"),
        () -> unchanged(EdgesOfRefusals::village, BEYOND, s -> s.write(0, 3, 9), s -> s.write(0, -1, 9),
            s -> s.write(3, 0, 9)));
    edge(NOTHING, "write(), MISSING or no such sheet",
        broken("public int write", "return found(lack)", "sheets[2].renew(8, 1);\n      return found(lack)"), () -> {
          unchanged(EdgesOfRefusals::village, MISSING, s -> s.write(2, 0, 9));
          x = new SharedShadow();
          unchanged(EdgesOfRefusals::village, BEYOND, s -> s.write(4, 0, 9), s -> s.write(-1, 0, 9));
        });
    edge(NOTHING, "load(), MISSING or no such sheet",
        broken("public int load", "return found(lack)", "land.sun[0] = 0;\n      return found(lack)"), () -> {
          unchanged(EdgesOfRefusals::village, MISSING, s -> s.load(2));
          x = new SharedShadow();
          unchanged(EdgesOfRefusals::village, BEYOND, s -> s.load(4), s -> s.load(-1));
        });
    edge(NOTHING, "judge(), MISSING or no such sheet",
        broken("public int judge", "return found(lack)", "land.sun[0] = 0;\n      return found(lack)"), () -> {
          unchanged(EdgesOfRefusals::village, MISSING, s -> s.judge(2));
          x = new SharedShadow();
          unchanged(EdgesOfRefusals::village, BEYOND, s -> s.judge(4), s -> s.judge(-1));
        });
  }

  private void copies() {
    edge(NOTHING, "copy(), MISSING",
        broken("public int copy", "return found(MISSING)", "sheets[2].renew(8, 1);\n      return found(MISSING)"),
        () -> unchanged(EdgesOfRefusals::village, MISSING, s -> s.copy(2, 0, 0, 0, 1), s -> s.copy(0, 0, 2, 0, 1)));
    edge(NOTHING, "copy(), KIND",
        broken("public int copy", "return found(KIND)", "sheets[t].put(0, 9);\n      return found(KIND)"),
        () -> unchanged(EdgesOfRefusals::village, KIND, s -> s.copy(0, 0, 1, 0, 2), s -> s.copy(1, 0, 0, 0, 1)));
    edge(NOTHING, "copy(), more than there are: none of them comes",
        broken("!sheets[t].hasRun(to, n)", "return found(BEYOND)", "sheets[t].put(0, 9);\n      return found(BEYOND)"),
        () -> unchanged(EdgesOfRefusals::village, BEYOND, s -> s.copy(0, 1, 0, 0, 3), s -> s.copy(0, 0, 0, 2, 2),
            s -> s.copy(0, -1, 0, 0, 1)));
    edge(NOTHING, "copy(), no such sheet",
        broken("public int copy", "return found(BEYOND)", "sheets[0].put(0, 9);\n      return found(BEYOND)"),
        () -> unchanged(EdgesOfRefusals::village, BEYOND, s -> s.copy(0, 0, 4, 0, 1), s -> s.copy(-1, 0, 0, 0, 1)));
  }

  private void images() {
    edge(NOTHING, "undo(), NONE",
        broken("public int undo", "return found(NONE)", "land.become(kept);\n      return found(NONE)"),
        () -> unchanged(EdgesOfRefusals::tornVillage, NONE, s -> s.undo()));
  }

  private void asked() {
    Edge.Break drawn = broken("private int found", "findings[finding]++;", "findings[finding]++;\n    land.drawn++;");
    edge(NOTHING, "what only tells, of no such PERSON",
        drawn,
        () -> unchanged(EdgesOfRefusals::village, BEYOND, s -> s.of(3, 1), s -> s.claim(3, 0), s -> s.met(3),
            s -> s.cold(3), s -> s.shade(3), s -> s.tan(3), s -> s.strong(3), s -> s.kindFor(3), s -> s.mate(3),
            s -> s.may(0, 3)));
    edge(NOTHING, "what only tells, of no two PEOPLE",
        drawn,
        () -> unchanged(EdgesOfRefusals::village, BEYOND, s -> s.agree(0, 3), s -> s.changes(0, 0),
            s -> s.holder(0, 3, 5), s -> s.gain(1, 1), s -> s.duel(3, 0)));
    edge(NOTHING, "what only tells, of no such HOUR, what, which or sheet",
        drawn,
        () -> unchanged(EdgesOfRefusals::village, BEYOND, s -> s.of(0, 7), s -> s.claim(0, 16), s -> s.now(5),
            s -> s.holder(0, 1, 16), s -> s.lanterns(16, 1, 0), s -> s.count(8), s -> s.fits(4), s -> s.may(4, 0)));
    edge(NOTHING, "what only tells, NONE",
        drawn,
        () -> unchanged(EdgesOfRefusals::tornVillage, NONE, s -> s.holder(0, 1, 3), s -> s.holder(0, 1, 0),
            s -> s.broken()));
    edge(NOTHING, "what only tells, MISSING",
        drawn, () -> unchanged(EdgesOfRefusals::village, MISSING, s -> s.fits(2), s -> s.may(2, 0)));
  }

  private void told() {
    edge(ONLY_TELLS, "met(), cold(), shade(), all(), tan()",
        broken("public int all", "rest.see(land);", "land.passHours(1);\n    rest.see(land);"),
        () -> unchangedBy(s -> {
          for (int p = 0; p < 3; p++) {
            s.met(p);
            s.shade(p);
            s.tan(p);
          }
          s.cold(1);
          s.all();
        }));
    edge(ONLY_TELLS, "strong()",
        broken("public int strong", "rest.to.strength[person] = strength;", "land.strength[person] = strength;"),
        () -> unchangedBy(s -> s.strong(2)));
    edge(ONLY_TELLS, "kindFor()",
        broken("public int kindFor", "rest.to.kind[person] = kind;", "land.kind[person] = kind;"),
        () -> unchangedBy(s -> s.kindFor(0)));
    edge(ONLY_TELLS, "cloud()",
        broken("public int cloud", "rest.to.lit ^=", "land.lit &= ~"), () -> unchangedBy(s -> s.cloud()));
  }
}
