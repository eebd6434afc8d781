/** Promises 9 to 19: hours that go by, and what will be. */
final class EdgesOfHours extends Edges {
  EdgesOfHours() {
    go();
    at();
    now();
    met();
    cold();
    shade();
    all();
    tan();
    strong();
    kindFor();
    cloud();
  }

  private void go() {
    promise(9);
    edge("n HOURS (1 to 16) go by: MET.", "1 and 16", broken("public int go", "n > DAY)", "n >= DAY)"), () -> {
      crowd(1);
      needs(65535);
      due(x.go(1), 1);
      x.at(0);
      due(x.go(16), 17);
      due(x.now(0), 16);
    });
    edge("BEYOND.", "0 and -1 are too small", broken("public int go", "n < 1", "n < 0"), () -> {
      refused(BEYOND, s -> s.go(0), s -> s.go(-1), s -> s.go(MIN));
      due(x.now(0), 0);
    });
    edge("BEYOND.", "17 is too large", broken("public int go", "n > DAY)", "n > DAY + 1)"), () -> {
      refused(BEYOND, s -> s.go(17), s -> s.go(MAX));
      due(x.now(0), 0);
    });
    edge("BEYOND. STATE: there are not so many.", "17 is BEYOND, not STATE, also when the day is over",
        broken("public int go", "n > DAY)", "n > DAY && land.hour < DAY)"), () -> {
          x.at(16);
          refused(BEYOND, s -> s.go(17), s -> s.go(0));
        });
    edge("STATE: there are not so many.", "just so many go by, one more doesn't",
        broken("public int go", "n > DAY - land.hour", "n > DAY - land.hour + 1"), () -> {
          x.at(13);
          refused(STATE, s -> s.go(4), s -> s.go(16));
          due(x.now(0), 13);
          due(x.go(3), 0);
          due(x.now(0), 16);
        });
    edge("STATE: there are not so many.", "none when the day is over",
        broken("public int go", "n > DAY - land.hour", "n > Math.max(1, DAY - land.hour)"), () -> {
          x.at(16);
          refused(STATE, s -> s.go(1), s -> s.go(16));
          due(x.now(0), 16);
        });
    edge("STATE: there are not so many.", "none of them goes by then",
        broken("public int go", "return found(STATE)", "land.passHours(n); return found(STATE)"), () -> {
          alternating();
          needs(65535, 65535);
          x.at(15);
          refused(STATE, s -> s.go(2));
          due(x.now(0), 15);
          due(x.now(1), 0);
          due(x.now(2), 0);
          due(x.count(4), 0);
        });
  }

  private void at() {
    promise(10);
    edge("HOUR becomes v (0 to 16)", "0 and 16",
        broken("public int at", "!isWithin(v, DAY)", "!isWithin(v, DAY - 1)"), () -> {
          due(x.at(16), 0);
          due(x.at(0), 16);
          due(x.now(0), 0);
        });
    edge("BEYOND.", "17 is too large", broken("public int at", "!isWithin(v, DAY)", "!isWithin(v, DAY + 1)"), () -> {
      x.at(3);
      refused(BEYOND, s -> s.at(17), s -> s.at(MAX));
      due(x.now(0), 3);
    });
    edge("BEYOND.", "-1 is too small", broken("public int at", "!isWithin(v, DAY)", "v > DAY"), () -> {
      x.at(3);
      refused(BEYOND, s -> s.at(-1), s -> s.at(MIN));
      due(x.now(0), 3);
    });
  }

  private void now() {
    promise(11);
    edge("4 who HAS a shadow now, as a set", "of nobody, of all, when the day is over",
        broken("int havers()", "p < people", "p < MOST_PEOPLE"), () -> {
          due(x.now(4), 0);
          crowd(7);
          due(x.now(4), 127);
          x.person(0);
          due(x.now(4), 255);
          x.at(16);
          due(x.now(4), 0);
        });
    edge("BEYOND.", "what -1 and 5",
        broken("public int now", "default:", "case 5: return 0;\n      default:"),
        () -> refused(BEYOND, s -> s.now(5), s -> s.now(-1), s -> s.now(MIN), s -> s.now(MAX)));
  }

  private void met() {
    promise(12);
    edge("How many NEEDS of a PERSON are MET in THE REST.", "none, all, those yet to come, none when the day is over",
        broken("int servedOf(", ") & left", ")"), () -> {
          crowd(1);
          due(x.met(0), 0);
          needs(65535);
          due(x.met(0), 16);
          x.light(0);
          due(x.met(0), 16);
          x.at(10);
          due(x.met(0), 6);
          x.at(16);
          due(x.met(0), 0);
        });
    edge("BEYOND.", "no such PERSON",
        broken("public int met", "!land.isPerson(person)", "person < 0 || person > land.people"), () -> {
          crowd(2);
          refused(BEYOND, s -> s.met(2), s -> s.met(-1), s -> s.met(8), s -> s.met(MIN), s -> s.met(MAX));
        });
  }

  private void cold() {
    promise(13);
    edge("The first HOUR of THE REST at which a PERSON isn't SERVED.", "HOUR 0, HOUR 15, HOUR now",
        broken("int firstCold(", "for (int h = 0;", "for (int h = 1;"), () -> {
          people(PERSON, OLD);
          x.share(0, 1);
          suns(0, 99);
          needs(65535);
          due(x.cold(0), 0);
          x.at(7);
          due(x.cold(0), 7);
          needs(32769);
          due(x.cold(0), 15);
        });
    edge("NONE.", "always SERVED, and when the day is over",
        broken("public int cold", "hour < DAY ? hour", "hour <= DAY ? hour"), () -> {
          alternating();
          needs(0b101, 0b101);
          refused(NONE, s -> s.cold(0));
          due(x.cold(1), 0);
          x.at(16);
          refused(NONE, s -> s.cold(1));
        });
    edge("BEYOND. NONE.", "no such PERSON",
        broken("public int cold", "!land.isPerson(person)", "person < 0 || person > land.people"), () -> {
          crowd(2);
          refused(BEYOND, s -> s.cold(2), s -> s.cold(-1), s -> s.cold(8), s -> s.cold(MIN), s -> s.cold(MAX));
        });
  }

  private void shade() {
    promise(14);
    edge("HOURS of THE REST at which a PERSON HAS a shadow, as a set.",
        "all of a day, the last one, none when it is over",
        broken("int shadeOf(", "bit(left, h) == 1 && ", ""), () -> {
          crowd(1);
          due(x.shade(0), 65535);
          x.at(15);
          due(x.shade(0), 32768);
          x.at(16);
          due(x.shade(0), 0);
        });
    edge("HOURS of THE REST at which a PERSON HAS a shadow, as a set.", "no dark HOUR",
        broken("int havers()", "|| bit(lit, hour) == 0", ""), () -> {
          crowd(1);
          x.light(32769);
          due(x.shade(0), 32769);
          x.light(0);
          due(x.shade(0), 0);
        });
    edge("BEYOND.", "no such PERSON",
        broken("public int shade", "!land.isPerson(person)", "person < 0 || person > land.people"), () -> {
          crowd(2);
          refused(BEYOND, s -> s.shade(2), s -> s.shade(-1), s -> s.shade(8), s -> s.shade(MIN), s -> s.shade(MAX));
        });
  }

  private void all() {
    promise(15);
    edge("How many NEEDS of all are MET in THE REST.", "of nobody, of all eight",
        broken("int metOfAll()", "p < to.people", "p < to.people - 1"), () -> {
          due(x.all(), 0);
          crowd(8);
          due(x.all(), 0);
          needs(65535, 65535, 65535, 65535, 65535, 65535, 65535, 65535);
          due(x.all(), 128);
          x.at(16);
          due(x.all(), 0);
        });
  }

  private void tan() {
    promise(16);
    edge("SUN of a PERSON behind THE REST.", "0 at least",
        broken("void passHour(", "Math.max(sun[p] - 1, 0)", "sun[p] - 1"), () -> {
          crowd(1);
          suns(15);
          due(x.tan(0), 0);
          suns(16);
          due(x.tan(0), 0);
          suns(17);
          due(x.tan(0), 1);
        });
    edge("SUN of a PERSON behind THE REST.", "99 at most",
        broken("void passHour(", "Math.min(sun[p] + 1, MOST_SUN)", "sun[p] + 1"), () -> {
          people(STRONG, TWIN);
          x.share(0, 1);
          // 0 claims 50 and more at even HOURS, when the other claims 0; and at odd HOURS more than 50.
          suns(99, 90);
          due(x.tan(1), 99);
          due(x.tan(0), 83);
        });
    edge("SUN of a PERSON behind THE REST.", "as it is when the day is over",
        broken("int sunOf(", "to.sun[person]", "first == DAY ? 0 : to.sun[person]"), () -> {
          crowd(1);
          suns(40);
          x.at(16);
          due(x.tan(0), 40);
        });
    edge("BEYOND.", "no such PERSON",
        broken("public int tan", "!land.isPerson(person)", "person < 0 || person > land.people"), () -> {
          crowd(2);
          refused(BEYOND, s -> s.tan(2), s -> s.tan(-1), s -> s.tan(8), s -> s.tan(MIN), s -> s.tan(MAX));
        });
  }

  private void strong() {
    promise(17);
    edge("The least STRENGTH (0 to 9)", "0", broken("public int strong", "strength = 0", "strength = 1"), () -> {
      people(STRONG, PERSON);
      x.share(0, 1);
      needs(1);
      due(x.strong(0), 0);
      x.at(16);
      due(x.strong(0), 0);
    });
    edge("The least STRENGTH (0 to 9)", "9",
        broken("public int strong", "strength <= MOST_STRENGTH", "strength < MOST_STRENGTH"), () -> {
          people(STRONG, PERSON);
          x.share(0, 1);
          needs(1);
          suns(0, 18);
          due(x.strong(0), 9);
          due(x.of(0, 2), 3);
        });
    edge("NONE.", "9 isn't enough",
        broken("public int strong", "strength <= MOST_STRENGTH", "strength <= MOST_STRENGTH + 1"), () -> {
          people(STRONG, PERSON);
          x.share(0, 1);
          needs(1);
          suns(0, 19);
          refused(NONE, s -> s.strong(0));
          due(x.of(0, 2), 3);
        });
    edge("NONE.", "whom no STRENGTH helps",
        broken("public int strong", "return found(NONE)", "return MOST_STRENGTH"), () -> {
          people(PERSON, OLD);
          x.share(0, 1);
          needs(1);
          refused(NONE, s -> s.strong(0));
          x.light(65534);
          due(x.strong(0), 0);
        });
    edge("BEYOND. NONE.", "no such PERSON",
        broken("public int strong", "!land.isPerson(person)", "person < 0 || person > land.people"), () -> {
          crowd(2);
          refused(BEYOND, s -> s.strong(2), s -> s.strong(-1), s -> s.strong(8), s -> s.strong(MIN),
              s -> s.strong(MAX));
        });
  }

  private void kindFor() {
    promise(18);
    edge("The KIND as which a PERSON has most NEEDS MET in THE REST.",
        "of several the least number, whatever it is now",
        broken("public int kindFor", "> most", ">= most"), () -> {
          people(DUELLIST, OLD);
          due(x.kindFor(0), PERSON);
          x.share(0, 1);
          needs(1);
          suns(40, 1);
          due(x.kindFor(0), PERSON);
          x.at(16);
          due(x.kindFor(0), PERSON);
          due(x.of(0, 0), DUELLIST);
        });
    edge("The KIND as which a PERSON has most NEEDS MET in THE REST.", "the last KIND as well",
        broken("public int kindFor", "kind < KINDS", "kind < KINDS - 1"), () -> {
          people(PERSON, PERSON);
          x.share(0, 1);
          needs(256);
          suns(0, 70);
          due(x.kindFor(0), DUELLIST);
        });
    edge("BEYOND.", "no such PERSON",
        broken("public int kindFor", "!land.isPerson(person)", "person < 0 || person > land.people"), () -> {
          crowd(2);
          refused(BEYOND, s -> s.kindFor(2), s -> s.kindFor(-1), s -> s.kindFor(8), s -> s.kindFor(MIN),
              s -> s.kindFor(MAX));
        });
  }

  private void cloud() {
    promise(19);
    edge("The HOUR (0 to 15)", "HOUR 0", broken("public int cloud", "hour = 0", "hour = 1"), () -> {
      crowd(2);
      x.share(0, 1);
      needs(0, 1);
      due(x.cloud(), 0);
    });
    edge("The HOUR (0 to 15)", "HOUR 15", broken("public int cloud", "hour < DAY", "hour < DAY - 1"), () -> {
      people(OLD, PERSON);
      x.share(0, 1);
      x.at(15);
      needs(0, 32768);
      due(x.cloud(), 15);
    });
    edge("if it were in LIGHT or not otherwise than now", "a dark HOUR in LIGHT",
        broken("public int cloud", "to.lit ^=", "to.lit &= ~"), () -> {
          crowd(2);
          x.share(0, 1);
          x.light(65534);
          needs(0, 2);
          due(x.all(), 0);
          due(x.cloud(), 0);
          due(x.now(3), 65534);
        });
    edge("would let most NEEDS of all be MET in THE REST", "of several the least number",
        broken("public int cloud", "metOfAll() > most) {",
            "metOfAll() >= most && (best >= 0 || rest.metOfAll() > most)) {"), () -> {
          people(OLD, PERSON);
          x.share(0, 1);
          suns(99);
          needs(0, 0b110000);
          due(x.cloud(), 4);
        });
    edge("-1: none would let more", "nobody, no NEEDS, all MET, the day is over",
        broken("public int cloud", "best = -1", "best = 0"), () -> {
          due(x.cloud(), -1);
          alternating();
          due(x.cloud(), -1);
          needs(0b101, 0b1010);
          due(x.cloud(), -1);
          needs(65535, 65535);
          x.at(16);
          due(x.cloud(), -1);
          due(x.status(-1), 0);
        });
    edge("-1: none would let more", "like many aren't more",
        broken("public int cloud", "metOfAll() > most", "metOfAll() >= most"), () -> {
          crowd(1);
          needs(65535);
          due(x.cloud(), -1);
        });
  }
}
