/** The Terms: findings, people, claims, hours, agreements, draws. */
final class EdgesOfTerms extends Edges {
  EdgesOfTerms() {
    promise(0);
    findings();
    calls();
    firstStates();
    claims();
    claimsOfTwinsAndDuellists();
    whoHas();
    served();
    hoursGoBy();
    sunAndTheRest();
    agreements();
    bestAgreements();
    pairings();
    draws();
    spotsAndSheets();
  }

  private void findings() {
    edge("FINDINGS are answers below -1000000: LOW is -1000001; LOW BEYOND", "BEYOND is -1000001",
        broken("class", "LOW = -1000001", "LOW = -1000000"), () -> due(x.person(-1), -1000001));
    edge("LOW - 1 FULL", "FULL is -1000002", broken("class", "FULL = 1;", "FULL = 2;"), () -> {
      crowd(8);
      due(x.person(0), -1000002);
    });
    edge("LOW - 2 KIND", "KIND is -1000003", broken("class", "KIND = 2;", "KIND = 3;"), () -> {
      crowd(1);
      x.hold(0, 0);
      due(x.as(0, 1), -1000003);
    });
    edge("LOW - 3 NONE", "NONE is -1000004", broken("class", "NONE = 3;", "NONE = 4;"), () -> due(x.undo(), -1000004));
    edge("LOW - 4 STATE", "STATE is -1000005", broken("class", "STATE = 4;", "STATE = 5;"), () -> {
      x.at(16);
      due(x.go(1), -1000005);
    });
    edge("LOW - 5 MISSING", "MISSING is -1000006",
        broken("class", "MISSING = 5;", "MISSING = 6;"), () -> due(x.load(0), -1000006));
    edge("LOW - 6 SIZE", "SIZE is -1000007",
        broken("class", "SIZE = 6;", "SIZE = 5;"), () -> due(x.sheet(0, 8, -1), -1000007));
    edge("(in longs, too)", "lanterns() answers BEYOND as a long",
        broken("public long lanterns", "return found(BEYOND)", "return found(BEYOND) & 0xffffffffL"),
        () -> due(x.lanterns(16, 0, 0), -1000001L));
    edge("What seed() and count(6) tell, z, may be any int: that is no finding.", "seed() tells numbers like findings",
        broken("public int seed", "return was;", "return was <= LOW ? found(BEYOND) : was;"), () -> {
          int[] like = {-1000001, -1000002, -1000003, -1000004, -1000005, -1000006, -1000007, MIN, MAX, -1};
          int was = 1;
          for (int z : like) {
            due(x.seed(z), was);
            was = z;
          }
          due(x.status(-1), 0);
        });
    edge("What seed() and count(6) tell, z, may be any int: that is no finding.",
        "count(6) tells numbers like findings",
        broken("public int count", "return land.drawn;",
            "return land.drawn <= LOW ? found(BEYOND) : land.drawn;"), () -> {
          int[] like = {-1000001, -1000007, -1000008, MIN, MAX};
          for (int z : like) {
            x.seed(z);
            due(x.count(6), z);
          }
          due(x.status(-1), 0);
        });
  }

  private void calls() {
    edge("Each act tells its findings in the order in which they are asked (that of its words)", "copy(): four of them",
        broken("public int copy", "if (sheets[s].bits != sheets[t].bits) {\n      return found(KIND);\n    }",
            ""), () -> {
          x.sheet(0, 8, 1);
          x.sheet(1, 16, 1);
          refused(BEYOND, s -> s.copy(3, 0, 4, 0, -1));
          refused(MISSING, s -> s.copy(0, 0, 3, 0, -1));
          refused(KIND, s -> s.copy(0, 0, 1, 0, -1));
          refused(BEYOND, s -> s.copy(0, 0, 0, 0, -1));
        });
    edge("Sets are told as bits", "of PEOPLE: number 7 is 128",
        broken("int havers()", "set |= 1 << p", "set |= 64 >> p"), () -> {
          crowd(8);
          for (int p = 1; p < 8; p++) {
            x.share(p - 1, p);
          }
          due(x.now(4), 1 | 2 | 4 | 8 | 16 | 32 | 64);
          x.change(7, 1, 1);
          due(x.now(4), 1 | 2 | 4 | 8 | 16 | 32 | 128);
        });
    edge("Sets are told as bits", "of HOURS: HOUR 15 is 32768",
        broken("int shadeOf(", "set |= 1 << h", "set |= 1 << (h & 7)"), () -> {
          crowd(1);
          x.light(32768);
          due(x.shade(0), 32768);
        });
    edge("of several that would do the least number counts, where nothing else is told", "of KINDS and HOURS",
        broken("public int kindFor", "> most", ">= most"), () -> {
          people(OLD, DUELLIST);
          x.share(0, 1);
          suns(99);
          needs(0, 0b110000);
          due(x.kindFor(0), PERSON);
          due(x.cloud(), 4);
        });
    edge("An object is used for at most 512 calls", "512 calls answer all that is due",
        broken("private int found", "findings[finding]++;",
            "findings[finding] = Math.min(findings[finding] + 1, 510);"), () -> {
          for (int call = 1; call <= 511; call++) {
            due(x.person(-1), BEYOND);
          }
          due(x.status(-1), 511);
        });
    edge("Quotients are cut.", "a LENDER's half of 19 is 9",
        broken("case LENDER:", "(own + 10) / 2", "(own + 11) / 2"), () -> {
          people(LENDER);
          suns(9);
          due(x.claim(0, 1), 9);
        });
    edge("Quotients are cut.", "a BEGGAR's half of 19 is 9",
        broken("case BEGGAR:", "(own + 10) / 2", "(own + 11) / 2"), () -> {
          people(BEGGAR);
          suns(9);
          due(x.claim(0, 0), 9);
        });
  }

  private void firstStates() {
    edge("(at most 8)", "8 people, the last is number 7", broken("class", "MOST_PEOPLE = 8", "MOST_PEOPLE = 7"), () -> {
      crowd(7);
      due(x.person(0), 7);
      due(x.count(1), 8);
    });
    edge("(at most 8)", "no 9th", broken("boolean isFull", "people >= MOST_PEOPLE", "people > MOST_PEOPLE"), () -> {
      crowd(8);
      refused(FULL, s -> s.person(0));
      due(x.count(1), 8);
    });
    edge("1 STRONG, 2 OLD, 5 TWIN under PERSON; 3 LENDER under OLD; 4 BEGGAR under LENDER; 6 DUELLIST under STRONG",
        "each KIND is of those above it, of no other",
        broken("class Land", "UNDER = {-1, 0, 0, 2, 3, 0, 1}", "UNDER = {-1, 0, 0, 2, 3, 0, 2}"), () -> {
          int[][] above = {{0}, {1, 0}, {2, 0}, {3, 2, 0}, {4, 3, 2, 0}, {5, 0}, {6, 1, 0}};
          for (int p = 0; p < 7; p++) {
            x.person(p);
            x.hold(p, p);
            int asked = 0;
            for (int kind : above[p]) {
              due(x.as(p, kind), p);
              asked |= 1 << kind;
            }
            for (int kind = 0; kind < 7; kind++) {
              if ((asked >> kind & 1) == 0) {
                due(x.as(p, kind), KIND);
              }
            }
          }
        });
    edge("SUN (0 to 99; 0 at first)", "0 at first, also for a number that was used ahead of undo()",
        broken("int add(", "sun[people] = 0;", "sun[people] = 1;"), () -> {
          x.image();
          crowd(1);
          suns(7);
          x.undo();
          due(x.person(0), 0);
          due(x.of(0, 1), 0);
        });
    edge("STRENGTH (0 to 9; 3 at first)", "3 at first",
        broken("class", "FIRST_STRENGTH = 3", "FIRST_STRENGTH = 2"), () -> {
          crowd(1);
          due(x.of(0, 2), 3);
        });
    edge("NEEDS (a set of HOURS 0 to 15; none at first)",
        "none at first, also for a number that was used ahead of undo()",
        broken("int add(", "needs[people] = 0;", "needs[people] = 1;"), () -> {
          x.image();
          crowd(1);
          needs(5);
          x.undo();
          crowd(1);
          due(x.of(0, 3), 0);
        });
    edge("a MATE or none (-1, at first)", "none at first", broken("int add(", "partner[people] = NOBODY;", ""), () -> {
      crowd(2);
      due(x.of(0, 4), -1);
      due(x.of(1, 4), -1);
    });
    edge("LIGHT: a set of HOURS (all at first)", "all at first",
        broken("class", "int lit = ALL_HOURS", "int lit = 0"), () -> due(x.now(3), 65535));
    edge("HOUR: the one that comes (0 at first;", "0 at first",
        broken("class Land", "int hour = 0", "int hour = 1"), () -> due(x.now(0), 0));
    edge("16: the day is over)", "nobody HAS a shadow then",
        broken("int havers()", "hour >= DAY || bit(lit, hour) == 0", "bit(lit, hour & 15) == 0"), () -> {
          crowd(2);
          x.light(1);
          x.at(16);
          due(x.now(4), 0);
          x.light(65535);
          due(x.now(4), 0);
        });
  }

  private void claimIs(int kind, int sun, int strength, int hour, int claim) {
    x.change(0, 0, kind);
    x.change(0, 1, sun);
    x.change(0, 2, strength);
    due(x.claim(0, hour), claim);
  }

  private void claims() {
    edge("PERSON: SUN.", "SUN of 0 and of 99",
        broken("int claimOf(", "default:\n          return own;", "default:\n          return own + 1;"), () -> {
          crowd(1);
          claimIs(PERSON, 0, 9, 0, 0);
          claimIs(PERSON, 99, 9, 15, 99);
        });
    edge("STRONG: as a PERSON, and twice STRENGTH.", "STRENGTH of 0 and of 9, above 99",
        broken("case STRONG:", "2 * strength", "strength"), () -> {
          crowd(1);
          claimIs(STRONG, 7, 0, 8, 7);
          claimIs(STRONG, 99, 9, 8, 117);
        });
    edge("OLD: as a PERSON, and 10.", "SUN of 0 and of 99", broken("case OLD:", "own + 10", "own + 9"), () -> {
      crowd(1);
      claimIs(OLD, 0, 9, 3, 10);
      claimIs(OLD, 99, 9, 4, 109);
    });
    edge("LENDER: half of that of OLD.", "at odd and at even HOURS",
        broken("case LENDER:", "(own + 10) / 2", "own / 2"), () -> {
          crowd(1);
          claimIs(LENDER, 0, 9, 3, 5);
          claimIs(LENDER, 99, 9, 4, 54);
        });
    edge("BEGGAR: as a LENDER at even HOURS, else 0.", "0 is even",
        broken("case BEGGAR:", "isEven ?", "isEven && at > 0 ?"), () -> {
          crowd(1);
          claimIs(BEGGAR, 20, 3, 0, 15);
          claimIs(BEGGAR, 20, 3, 14, 15);
        });
    edge("BEGGAR: as a LENDER at even HOURS, else 0.", "else 0", broken("case BEGGAR:", "isEven ?", "true ?"), () -> {
      crowd(1);
      claimIs(BEGGAR, 20, 3, 1, 0);
      claimIs(BEGGAR, 20, 3, 15, 0);
    });
  }

  private void claimsOfTwinsAndDuellists() {
    edge("TWIN: 50, if HOUR and the own number are both even or both odd, else 0.", "both even",
        broken("case TWIN:", "isEven == (person % 2 == 0)", "!isEven && person % 2 == 1"), () -> {
          crowd(8);
          x.change(0, 0, TWIN);
          x.change(6, 0, TWIN);
          suns(70);
          due(x.claim(0, 0), 50);
          due(x.claim(6, 14), 50);
        });
    edge("TWIN: 50, if HOUR and the own number are both even or both odd, else 0.", "both odd",
        broken("case TWIN:", "isEven == (person % 2 == 0)", "isEven && person % 2 == 0"), () -> {
          crowd(8);
          x.change(1, 0, TWIN);
          x.change(7, 0, TWIN);
          due(x.claim(1, 15), 50);
          due(x.claim(7, 1), 50);
        });
    edge("TWIN: 50, if HOUR and the own number are both even or both odd, else 0.", "else 0, whatever SUN is",
        broken("case TWIN:", "50 : 0", "50 : own"), () -> {
          crowd(8);
          x.change(0, 0, TWIN);
          x.change(7, 0, TWIN);
          x.change(0, 1, 99);
          x.change(7, 1, 99);
          due(x.claim(0, 1), 0);
          due(x.claim(7, 0), 0);
        });
    edge("DUELLIST: as STRONG; 99 at HOUR 8.", "99 at HOUR 8, be it more or less than else",
        broken("case DUELLIST:", "? 99 : own", "? Math.max(99, own + 2 * strength[person]) : own"), () -> {
          crowd(1);
          claimIs(DUELLIST, 0, 0, 8, 99);
          claimIs(DUELLIST, 99, 9, 8, 99);
        });
    edge("DUELLIST: as STRONG; 99 at HOUR 8.", "as STRONG at 7 and 9",
        broken("case DUELLIST:", "at == DUEL_HOUR", "at >= 7 && at <= 9"), () -> {
          crowd(1);
          claimIs(DUELLIST, 5, 4, 7, 13);
          claimIs(DUELLIST, 5, 4, 9, 13);
        });
  }

  private void whoHas() {
    edge("of two MATES that one HAS the shadow whose CLAIM is more", "more by one",
        broken("int stronger(", ") > claimOf", ") > 1 + claimOf"), () -> {
          crowd(2);
          x.share(0, 1);
          suns(0, 1);
          due(x.now(4), 2);
          suns(1, 0);
          due(x.now(4), 1);
        });
    edge("(of like ones the lesser number)", "of like CLAIMS, whoever was told first",
        broken("int stronger(", ") > claimOf", ") >= claimOf"), () -> {
          crowd(4);
          x.share(1, 0);
          x.share(2, 3);
          due(x.now(4), 1 | 4);
        });
    edge("who has no MATE HAS one always", "one who was parted from a MATE of more CLAIM",
        broken("int havers()", "partner[p] == NOBODY ||", "partner[p] != NOBODY &&"), () -> {
          people(PERSON, OLD, PERSON);
          x.share(0, 1);
          due(x.now(4), 2 | 4);
          x.part(0);
          due(x.now(4), 1 | 2 | 4);
        });
    edge("at an HOUR not in LIGHT nobody HAS any", "nor who has no MATE; the HOURS 0 and 15",
        broken("int havers()", "|| bit(lit, hour) == 0", ""), () -> {
          people(PERSON, OLD, PERSON);
          x.share(0, 1);
          x.light(65534);
          due(x.now(4), 0);
          x.light(32767);
          x.at(15);
          due(x.now(4), 0);
        });
  }

  private void served() {
    edge("One is SERVED at an HOUR, if it isn't in NEEDS", "without NEEDS always",
        broken("int servedOf(", "~to.needs[person] | ", ""), () -> {
          alternating();
          due(x.cold(0), NONE);
          due(x.cold(1), NONE);
        });
    edge("or isn't in LIGHT", "in the dark", broken("int servedOf(", "~to.lit | ", ""), () -> {
      alternating();
      needs(2);
      due(x.cold(0), 1);
      x.light(65533);
      due(x.cold(0), NONE);
    });
    edge("or one HAS a shadow", "with the shadow", broken("int servedOf(", " | shadeOf(person)", ""), () -> {
      alternating();
      needs(4);
      due(x.cold(0), NONE);
    });
    edge("MET: it is in NEEDS, and one is SERVED.", "an HOUR that isn't in NEEDS counts for nothing",
        broken("void passHour(", "bit(needs[p], hour) == 1", "true"), () -> {
          alternating();
          due(x.go(1), 0);
          due(x.now(2), 0);
        });
    edge("MET: it is in NEEDS, and one is SERVED.", "a need at a dark HOUR is MET",
        broken("void passHour(", "tally(has || !isLit)", "tally(has)"), () -> {
          alternating();
          needs(1, 1);
          x.light(0);
          due(x.go(1), 2);
          due(x.now(2), 0);
        });
  }

  private void hoursGoBy() {
    edge("MET (0 at first) is more by how many NEEDS are MET at it", "0 at first",
        broken("class Land", "int wereMet = 0", "int wereMet = 1"), () -> {
          due(x.now(1), 0);
          due(x.go(1), 0);
        });
    edge("MISSED (0 at first) by how many aren't", "0 at first",
        broken("class Land", "int wereMissed = 0", "int wereMissed = 1"), () -> due(x.now(2), 0));
    edge("MISSED (0 at first) by how many aren't", "one MET, one missed",
        broken("void tally(", "wereMissed++", "wereMissed += 2"), () -> {
          alternating();
          needs(1, 1);
          due(x.go(1), 1);
          due(x.now(2), 1);
        });
  }

  private void sunAndTheRest() {
    edge("who HAS no shadow has 1 more SUN (99 at most)", "from 98 to 99, and 99 stays",
        broken("void passHour(", "Math.min(sun[p] + 1, MOST_SUN)", "sun[p] + 1"), () -> {
          people(DUELLIST, PERSON);
          x.share(0, 1);
          suns(99, 98);
          x.go(1);
          due(x.of(1, 1), 99);
          x.go(1);
          due(x.of(1, 1), 99);
        });
    edge("who HAS no shadow has 1 more SUN (99 at most)", "98 isn't the most",
        broken("class", "MOST_SUN = 99", "MOST_SUN = 98"), () -> {
          people(DUELLIST, PERSON);
          x.share(0, 1);
          suns(98, 98);
          x.go(1);
          due(x.of(1, 1), 99);
        });
    edge("who HAS one 1 less (0 at least)", "from 1 to 0, and 0 stays",
        broken("void passHour(", "Math.max(sun[p] - 1, 0)", "sun[p] - 1"), () -> {
          crowd(1);
          suns(1);
          x.go(1);
          due(x.of(0, 1), 0);
          x.go(1);
          due(x.of(0, 1), 0);
        });
    edge("who HAS one 1 less (0 at least)", "99 goes down", broken("void passHour(", "sun[p] - 1", "sun[p]"), () -> {
      crowd(1);
      suns(99);
      x.go(1);
      due(x.of(0, 1), 98);
    });
    edge("then, if it is in LIGHT", "no SUN changes at a dark HOUR",
        broken("void passHour(", "if (isLit)", "if (true)"), () -> {
          alternating();
          suns(5, 7);
          x.light(65534);
          x.go(1);
          due(x.of(0, 1), 5);
          due(x.of(1, 1), 7);
        });
    edge("then, if it is in LIGHT", "who HAS it is told by SUN ahead of the change",
        broken("void passHour(", "boolean isLit", "sun[1]++; have = havers(); boolean isLit"), () -> {
          alternating();
          needs(1, 0);
          due(x.go(1), 1);
        });
    edge("HOUR is one more", "15 becomes 16", broken("void passHour(", "hour++", "hour = hour + 1 & 15"), () -> {
      x.at(15);
      x.go(1);
      due(x.now(0), 16);
    });
    edge("THE REST: all HOURS yet.", "the HOUR that comes is one of them, one that went isn't",
        broken("int hoursLeft()", "ALL_HOURS << hour", "ALL_HOURS << hour + 1"), () -> {
          crowd(1);
          x.at(15);
          needs(32768);
          due(x.met(0), 1);
          needs(16384);
          due(x.met(0), 0);
        });
    edge("THE REST: all HOURS yet.", "none when the day is over",
        broken("int hoursLeft()", "ALL_HOURS << hour & ALL_HOURS",
            "ALL_HOURS << Math.min(hour, 15) & ALL_HOURS"), () -> {
          crowd(1);
          needs(65535);
          due(x.met(0), 16);
          x.at(16);
          due(x.met(0), 0);
          due(x.shade(0), 0);
        });
  }

  private void agreements() {
    edge("(and all of HOURS not in LIGHT)", "all dark: all NEEDS of both",
        broken("int metOfSide(", "dark | ", ""), () -> {
          crowd(2);
          needs(65535, 65535);
          x.light(0);
          due(x.agree(0, 1), 32);
          due(x.changes(0, 1), 0);
        });
    edge("than at the HOUR in LIGHT ahead of it", "a dark HOUR between two others is passed over",
        broken("int countChanges()", "if (bit(shared, h) == 1)",
            "if (bit(shared, h) == 0) {\n          ahead = NOBODY;\n        } else"), () -> {
          crowd(2);
          needs(1, 4);
          x.light(5);
          due(x.changes(0, 1), 1);
        });
    edge("than at the HOUR in LIGHT ahead of it", "what comes behind a dark HOUR is foreseen, on both sides",
        broken("void weighBehind()", ": behind[2 * h + 2 + side]", ": behind[2 * h + 2]"), () -> {
          crowd(2);
          x.light(65535 - 2);
          needs(0, 4);
          due(x.changes(0, 1), 0);
          due(x.holder(0, 1, 0), 1);
          needs(4, 0);
          due(x.changes(0, 1), 0);
          due(x.holder(0, 1, 0), 0);
        });
    edge("(in THE REST)", "the first HOUR of THE REST is no CHANGE",
        broken("void choose()", "int ahead = NOBODY", "int ahead = 0"), () -> {
          crowd(2);
          // Free but for HOUR 9, which 1 needs: 1 may have it from the first HOUR on, without a CHANGE.
          needs(0, 512);
          due(x.changes(0, 1), 0);
          due(x.holder(0, 1, 0), 1);
          x.at(9);
          due(x.holder(0, 1, 9), 1);
        });
    edge("(in THE REST)", "HOURS that went count for nothing",
        broken("void make(", "shared = land.hoursLeft() & land.lit", "shared = land.lit"), () -> {
          crowd(2);
          needs(1, 2);
          x.at(1);
          due(x.changes(0, 1), 0);
          due(x.agree(0, 1), 1);
        });
  }

  private void bestAgreements() {
    edge("The best: that which MEETS most", "a need outweighs all the CHANGES of a day",
        broken("class Agreement", "WORTH = 100", "WORTH = 1"), () -> {
          crowd(2);
          needs(0x5555, 0xAAAA);
          due(x.agree(0, 1), 16);
          due(x.changes(0, 1), 15);
        });
    edge("of several with the fewest CHANGES", "HOUR 15 is foreseen from the first HOUR on",
        broken("void weighBehind()", "int h = DAY - 1", "int h = DAY - 2"), () -> {
          crowd(2);
          needs(0, 32768);
          due(x.agree(0, 1), 1);
          due(x.changes(0, 1), 0);
          due(x.holder(0, 1, 0), 1);
        });
    edge("of several with the fewest CHANGES", "a free HOUR stays with who had it",
        broken("void weighBehind()", "worthOf(1 - side, h) - 1", "worthOf(1 - side, h)"), () -> {
          crowd(2);
          needs(0, 8);
          due(x.changes(1, 0), 0);
          due(x.holder(0, 1, 0), 1);
          needs(0b1001, 0b10);
          due(x.changes(0, 1), 2);
          due(x.holder(0, 1, 0), 0);
        });
    edge("of several the first (by HOURS, the lesser number first)", "without NEEDS the lesser number has it all day",
        broken("void choose()", "greater > lesser", "greater >= lesser"), () -> {
          crowd(2);
          due(x.holder(1, 0, 0), 0);
          due(x.holder(1, 0, 15), 0);
        });
    edge("of several the first (by HOURS, the lesser number first)",
        "the one CHANGE to the lesser number as early as can be",
        broken("void choose()", "ahead == 1 ? 1 : 0", "ahead == 1 ? 2 : 0"), () -> {
          crowd(2);
          needs(256, 1);
          due(x.holder(0, 1, 0), 1);
          due(x.holder(0, 1, 1), 0);
        });
    edge("of several the first (by HOURS, the lesser number first)",
        "the one CHANGE to the greater number as late as can be",
        broken("void choose()", "ahead == 0 ? 1 : 0", "ahead == 0 ? 0 : 0"), () -> {
          crowd(2);
          needs(1, 256);
          due(x.holder(0, 1, 7), 0);
          due(x.holder(0, 1, 8), 1);
        });
  }

  private void pairings() {
    edge("one alone (all NEEDS of THE REST are MET then) if they are odd in number", "of one all NEEDS of THE REST",
        broken("void weighByAgreements()", "& land.hoursLeft()", ""), () -> {
          crowd(1);
          needs(0b1111);
          due(x.pairs(), 4);
          x.at(2);
          due(x.pairs(), 2);
          due(x.mate(0), -1);
        });
    edge("one alone (all NEEDS of THE REST are MET then) if they are odd in number",
        "nobody is alone of an even number",
        broken("int worthWith(", " && (a != b || Integer.bitCount(set) % 2 == 1)", ""), () -> {
          crowd(2);
          needs(15, 15);
          due(x.pairs(), 4);
          due(x.mate(0), 1);
        });
    edge("It MEETS what the best AGREEMENTS do, and who is alone.", "of nobody: 0",
        broken("void weigh(", "best[0] = 0", "best[0] = 1"), () -> due(x.pairs(), 0));
  }

  private void draws() {
    edge("z is told (1 at first)", "1 at first", broken("class Land", "int drawn = 1", "int drawn = 0"), () -> {
      due(x.count(6), 1);
      due(x.seed(9), 1);
    });
    // 2^31 - 1 times the odd factor is 2^31 - 1103515245, as 32 bits; and 12345.
    edge("each makes it z * 1103515245 + 12345 (an int)", "it wraps around from the greatest z",
        broken("int draw()", "drawn = drawn * 1103515245 + 12345",
            "drawn = (int) Math.min(drawn * 1103515245L + 12345, 2147483647)"), () -> {
          x.seed(MAX);
          x.days(1);
          due(x.count(6), 1043980748);
        });
    // -2^31 times an odd factor is -2^31 again, as 32 bits.
    edge("each makes it z * 1103515245 + 12345 (an int)", "it wraps around from the least z",
        broken("int draw()", "drawn = drawn * 1103515245 + 12345",
            "drawn = (int) Math.max(drawn * 1103515245L + 12345, -2147483648)"), () -> {
          x.seed(MIN);
          x.days(1);
          due(x.count(6), -2147471303);
        });
    edge("each makes it z * 1103515245 + 12345 (an int)", "z of 0 becomes 12345",
        broken("int draw()", "+ 12345", "+ 12344"), () -> {
          x.seed(0);
          x.days(1);
          due(x.count(6), 12345);
        });
    // 12345 is 48 * 256 + 57.
    edge("and gives z >>> 8", "the lowest 8 bits don't count", broken("int draw()", ">>> 8", ">>> 7"), () -> {
      x.seed(0);
      x.days(1);
      due(x.now(3), 48);
    });
    // -1103502900 is, without a sign, 3191464396: 12466657 * 256 and 204; 12466657 is 190 * 65536 + 14817.
    edge("and gives z >>> 8", "of a z below 0", broken("int draw()", "drawn >>> 8", "drawn / 256"), () -> {
      x.seed(-1);
      x.days(1);
      due(x.count(6), -1103502900);
      due(x.now(3), 14817);
    });
  }

  private void spotsAndSheets() {
    edge("SPOTS 0 to 9 hold a PERSON or nothing (at first).", "nothing at first",
        broken("Land() {", "spots[s] = NOBODY", "spots[s] = 0"), () -> {
          crowd(1);
          for (int spot = 0; spot <= 9; spot++) {
            due(x.as(spot, 0), MISSING);
          }
          due(x.count(7), 0);
        });
    edge("SPOTS 0 to 9 hold", "spot 9 is the last", broken("class", "SPOTS = 10", "SPOTS = 9"), () -> {
      crowd(1);
      due(x.hold(0, 0), 1);
      due(x.hold(9, 0), 1);
      refused(BEYOND, s -> s.hold(10, 0));
    });
    edge("SHEETS 0 to 3", "sheet 3 is the last", broken("class", "SHEETS = 4", "SHEETS = 3"), () -> {
      due(x.sheet(0, 8, 1), 1);
      due(x.sheet(3, 8, 1), 1);
      refused(BEYOND, s -> s.sheet(4, 8, 1));
    });
    edge("rows of at most 40 numbers", "40 numbers, each its own place",
        broken("class", "MOST_NUMBERS = 40", "MOST_NUMBERS = 39"), () -> {
          due(x.sheet(0, 16, 40), 40);
          due(x.write(0, 39, 1), 1);
          refused(BEYOND, s -> s.write(0, 40, 1));
        });
    edge("(told with their sign: of 8 bits 255 is -1)", "of 8 bits 127 is itself, 128 and 255 are below 0",
        broken("void put(", "(byte) v", "v & 255"), () -> {
          crowd(8);
          x.light(1);
          row(0, 8, 127);
          due(x.judge(0), 1);
          // All eight HAVE one: 255, which no number of 8 bits is.
          row(0, 8, 255);
          due(x.judge(0), 1);
          row(0, 8, 128);
          due(x.fits(0), 0);
        });
    edge("(told with their sign: of 8 bits 255 is -1)", "of 16 bits 255 is itself, 65535 is -1",
        broken("void put(", "(short) v", "(byte) v"), () -> {
          crowd(8);
          row(0, 16, 255);
          due(x.judge(0), 0);
          row(0, 16, 65535);
          due(x.judge(0), 1);
        });
    edge("or MISSING (at first)", "MISSING at first", broken("class Sheet", "int bits = 0", "int bits = 8"), () -> {
      for (int s = 0; s <= 3; s++) {
        due(x.load(s), MISSING);
      }
    });
  }
}
