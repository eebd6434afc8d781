/** Promises 30 to 33: duels, lanterns, draws. */
final class EdgesOfDraws extends Edges {
  private static final String DAYS_STATE = "STATE: MET or MISSED is above 90000.";

  EdgesOfDraws() {
    duel();
    lanterns();
    days();
    daysTooMuch();
    seed();
  }

  private void duel() {
    promise(30);
    edge("at HOUR 8 (if it is in LIGHT, with the shadow for which they would be MATES)", "not in LIGHT: no shadow",
        broken("int duelForce(", "bit(land.lit, DUEL_HOUR) == 1 && ", ""), () -> {
          people(PERSON, OLD);
          x.light(65535 - 256);
          due(x.duel(0, 1), 0);
          x.light(256);
          due(x.duel(0, 1), 1);
        });
    edge("at HOUR 8", "CLAIMS at HOUR 8, not at 7 or 9", broken("class", "DUEL_HOUR = 8", "DUEL_HOUR = 9"), () -> {
      people(PERSON, BEGGAR);
      suns(1);
      due(x.duel(0, 1), 1);
      x.at(9);
      due(x.duel(0, 1), 1);
    });
    edge("at HOUR 8", "whatever HOUR it is, also when the day is over",
        broken("int duelForce(", "bit(land.lit, DUEL_HOUR) == 1 &&",
            "bit(land.lit & land.hoursLeft(), DUEL_HOUR) == 1 &&"), () -> {
          people(PERSON, OLD);
          x.at(16);
          due(x.duel(0, 1), 1);
        });
    edge("STRENGTH, and 3 for the shadow", "2 more STRENGTH is less than the shadow",
        broken("class", "DUEL_HELP = 3", "DUEL_HELP = 2"), () -> {
          people(PERSON, OLD);
          strengths(5, 3);
          due(x.duel(0, 1), 1);
          due(x.duel(1, 0), 1);
        });
    edge("of like ones the lesser number", "3 more STRENGTH is as much as the shadow",
        broken("class", "DUEL_HELP = 3", "DUEL_HELP = 4"), () -> {
          people(PERSON, OLD);
          strengths(6, 3);
          due(x.duel(0, 1), 0);
          due(x.duel(1, 0), 0);
        });
    edge("of like ones the lesser number", "whoever is told first",
        broken("public int duel", "duelForce(greater, lesser) > duelForce(lesser, greater) ? greater : lesser",
            "duelForce(b, a) > duelForce(a, b) ? b : a"), () -> {
          crowd(2);
          x.light(0);
          due(x.duel(1, 0), 0);
          due(x.duel(0, 1), 0);
        });
    edge("STRENGTH, and 3 for the shadow", "the greater number by 4 over the lesser one's shadow",
        broken("int duelForce(", "DUEL_HELP : 0", "DUEL_HELP + 1 : 0"), () -> {
          crowd(2);
          strengths(0, 4);
          due(x.duel(0, 1), 1);
          strengths(0, 3);
          due(x.duel(0, 1), 0);
        });
    edge("BEYOND: also one and the same.", "one and the same",
        broken("public int duel", "!land.areTwo(a, b)", "!land.isPerson(a) || !land.isPerson(b)"), () -> {
          crowd(2);
          refused(BEYOND, s -> s.duel(0, 0), s -> s.duel(1, 1));
        });
    edge("BEYOND: also one and the same.", "no such PEOPLE",
        broken("public int duel", "!land.areTwo(a, b)", "!land.isPerson(a) || a == b"), () -> {
          crowd(2);
          refused(BEYOND, s -> s.duel(0, 2), s -> s.duel(2, 0), s -> s.duel(-1, 0), s -> s.duel(0, -1),
              s -> s.duel(MIN, MAX));
        });
  }

  private void odds(int n, int m, long above, long below) {
    due(x.lanterns(n, m, 0), above);
    due(x.lanterns(n, m, 1), below);
  }

  private void lanterns() {
    promise(31);
    edge("of n (0 to 15) lanterns none", "no lantern: 1 of 1",
        broken("private static long power", "long all = 1", "long all = times == 0 ? 0 : 1"), () -> {
          odds(0, 0, 1, 1);
          odds(0, 3, 1, 1);
          odds(0, 10, 1, 1);
        });
    edge("of n (0 to 15) lanterns none", "15 need a long",
        broken("private static long power", "all *= base", "all = (int) (all * base)"), () -> {
          odds(15, 3, 4747561509943L, 1000000000000000L);
          odds(15, 1, 205891132094649L, 1000000000000000L);
          odds(15, 9, 1, 1000000000000000L);
        });
    edge("each by m (0 to 10) tenths", "0 tenths: surely none; 10: surely one",
        broken("private static int commonDivisor", "d = Math.max(a, b)", "d = Math.min(a, b)"), () -> {
          odds(15, 0, 1, 1);
          odds(1, 10, 0, 1);
          odds(15, 10, 0, 1);
        });
    edge("a fraction in lowest terms", "by 2 and by 5",
        broken("private static int commonDivisor", "d > 1", "d > 2"), () -> {
          odds(2, 2, 16, 25);
          odds(1, 4, 3, 5);
          odds(15, 5, 1, 32768);
          odds(3, 8, 1, 125);
          odds(1, 7, 3, 10);
        });
    edge("BEYOND.", "n of -1 and 16",
        broken("public long lanterns", "!isWithin(n, MOST_LANTERNS) ||", "n > MOST_LANTERNS + 1 ||"),
        () -> refused(BEYOND, s -> s.lanterns(-1, 5, 0), s -> s.lanterns(16, 5, 1), s -> s.lanterns(MIN, 5, 0),
            s -> s.lanterns(MAX, 5, 0)));
    edge("BEYOND.", "m of -1 and 11",
        broken("public long lanterns", "!isWithin(m, TENTHS)", "!isWithin(m, TENTHS + 1)"),
        () -> refused(BEYOND, s -> s.lanterns(2, -1, 0), s -> s.lanterns(2, 11, 1), s -> s.lanterns(2, MIN, 0),
            s -> s.lanterns(2, MAX, 0)));
    edge("above (what 0), below the line (1). BEYOND.", "what of -1 and 2",
        broken("public long lanterns", "!isWithin(what, 1)", "!isWithin(what, 2)"),
        () -> refused(BEYOND, s -> s.lanterns(2, 5, 2), s -> s.lanterns(2, 5, -1), s -> s.lanterns(2, 5, MIN),
            s -> s.lanterns(2, 5, MAX)));
  }

  private void days() {
    promise(32);
    edge("n days (1 to 20)", "1 and 20", broken("class", "MOST_DAYS = 20", "MOST_DAYS = 19"), () -> {
      crowd(1);
      needs(65535);
      due(x.days(1), 16);
      due(x.days(20), 336);
    });
    edge("BEYOND.", "21 is too large", broken("public int days", "n > MOST_DAYS", "n > MOST_DAYS + 1"), () -> {
      refused(BEYOND, s -> s.days(21), s -> s.days(MAX));
      due(x.count(6), 1);
      due(x.now(0), 0);
    });
    edge("BEYOND.", "0 and -1 are too small", broken("public int days", "n < 1", "n < 0"), () -> {
      refused(BEYOND, s -> s.days(0), s -> s.days(-1), s -> s.days(MIN));
      due(x.count(6), 1);
    });
    // 1103527590 / 256 is 4310654; that is 65 * 65536 + 50814.
    edge("its lowest 16 bits are LIGHT", "higher bits don't count",
        broken("public int days", "land.draw() & ALL_HOURS", "land.draw() % 100000"), () -> {
          x.days(1);
          due(x.now(3), 50814);
          due(x.count(6), 1103527590);
        });
    edge("HOUR is 0; all HOURS go by", "whatever HOUR it was, also when the day was over",
        broken("public int days", "land.hour = 0;", ""), () -> {
          crowd(1);
          needs(65535);
          x.at(16);
          due(x.days(1), 16);
          x.at(9);
          due(x.days(2), 48);
          due(x.now(0), 16);
        });
  }

  // Eight with all NEEDS, all of which are MET: 700 days make 89600, 3 more 89984; of another day two HOURS 16 more.
  private void meet90000() {
    crowd(8);
    needs(65535, 65535, 65535, 65535, 65535, 65535, 65535, 65535);
    for (int i = 0; i < 35; i++) {
      x.days(20);
    }
    due(x.days(3), 89984);
    x.at(0);
    due(x.go(2), 90000);
  }

  /** One more need that is MET. */
  private void meetOne() {
    needs(65535, 0, 0, 0, 0, 0, 0, 0);
    x.at(0);
    x.go(1);
  }

  // MATES who need it just when the other one has it: as many are missed as HOURS are in LIGHT, four at each.
  private void miss90000() {
    people(TWIN, OLD, TWIN, OLD, TWIN, OLD, TWIN, OLD);
    needs(0xAAAA, 0x5555, 0xAAAA, 0x5555, 0xAAAA, 0x5555, 0xAAAA, 0x5555);
    for (int p = 0; p < 8; p += 2) {
      x.share(p, p + 1);
    }
    for (int i = 0; i < 200 && x.now(2) < 88000; i++) {
      x.days(20);
    }
    x.light(65535);
    missUpTo(89936, 0, 16);
    missUpTo(89996, 1, 1);
    needs(2, 0, 0, 0, 0, 0, 0, 0);
    missUpTo(90000, 1, 1);
    due(x.now(2), 90000);
    is(x.now(1) < 90000);
  }

  private void missUpTo(int most, int hour, int hours) {
    for (int i = 0; i < 50 && x.now(2) < most; i++) {
      x.at(hour);
      x.go(hours);
    }
  }

  private void daysTooMuch() {
    edge(DAYS_STATE, "MET of 90000 isn't above, 90001 is",
        broken("class", "TOO_MUCH = 90000", "TOO_MUCH = 90001"), () -> {
          meet90000();
          x.image();
          is(x.days(1) > 90000);
          x.undo();
          meetOne();
          due(x.now(1), 90001);
          refused(STATE, s -> s.days(1), s -> s.days(20));
          due(x.now(1), 90001);
          due(x.now(0), 1);
        });
    edge(DAYS_STATE, "MET of 90000 isn't above",
        broken("public int days", "land.wereMet > TOO_MUCH", "land.wereMet >= TOO_MUCH"), () -> {
          meet90000();
          due(x.days(1), 90128);
        });
    edge(DAYS_STATE, "not above ahead of these days: they all go by",
        broken("public int days", "i < n", "i < n && land.wereMet <= TOO_MUCH"), () -> {
          meet90000();
          due(x.days(20), 92560);
          refused(STATE, s -> s.days(1));
        });
    edge(DAYS_STATE, "MISSED of 90000 isn't above, 90001 is",
        broken("public int days", "land.wereMissed > TOO_MUCH", "land.wereMissed > TOO_MUCH + 1"), () -> {
          miss90000();
          x.image();
          is(x.days(1) > 0);
          x.undo();
          x.at(1);
          x.light(65535);
          x.go(1);
          due(x.now(2), 90001);
          refused(STATE, s -> s.days(1), s -> s.days(20));
          due(x.now(2), 90001);
        });
    edge(DAYS_STATE, "MISSED of 90000 isn't above",
        broken("public int days", "land.wereMissed > TOO_MUCH", "land.wereMissed >= TOO_MUCH"), () -> {
          miss90000();
          is(x.days(1) > 0);
        });
    edge("BEYOND. STATE:", "21 days are BEYOND, not STATE",
        broken("public int days", "n > MOST_DAYS", "n > MOST_DAYS && land.wereMet <= TOO_MUCH"), () -> {
          meet90000();
          meetOne();
          refused(BEYOND, s -> s.days(21), s -> s.days(0));
          refused(STATE, s -> s.days(1));
        });
  }

  private void seed() {
    promise(33);
    edge("z becomes v: what it was.", "any int",
        broken("public int seed", "land.drawn = v;", "land.drawn = Math.max(v, 0);"), () -> {
          due(x.seed(MIN), 1);
          due(x.seed(MAX), MIN);
          due(x.seed(0), MAX);
          due(x.seed(-1000001), 0);
          due(x.seed(-1000001), -1000001);
          due(x.status(-1), 0);
        });
  }
}
