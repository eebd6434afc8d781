/** Promises 20 to 29: agreements, pairings, shade that was seen. */
final class EdgesOfPairs extends Edges {
  EdgesOfPairs() {
    agree();
    changes();
    holder();
    gain();
    pairs();
    mate();
    ways();
    broken();
    fits();
    fitsRefused();
    may();
  }

  private void agree() {
    promise(20);
    edge("How many NEEDS the best AGREEMENT of two MEETS.", "none, all that can be, none when the day is over",
        broken("int metOfSide(", "(dark | held[side])", "(dark | held[side] | ~shared)"), () -> {
          crowd(2);
          due(x.agree(0, 1), 0);
          needs(65535, 65535);
          due(x.agree(0, 1), 16);
          x.at(15);
          due(x.agree(0, 1), 1);
          x.at(16);
          due(x.agree(0, 1), 0);
        });
    edge("BEYOND: also one and the same.", "one and the same", broken("boolean areTwo(", " && a != b", ""), () -> {
      crowd(2);
      refused(BEYOND, s -> s.agree(0, 0), s -> s.agree(1, 1));
    });
    edge("BEYOND: also one and the same.", "no such PEOPLE",
        broken("public int agree", "!land.areTwo(a, b)", "!land.isPerson(a) || a == b"), () -> {
          crowd(2);
          refused(BEYOND, s -> s.agree(0, 2), s -> s.agree(2, 0), s -> s.agree(-1, 0), s -> s.agree(0, -1),
              s -> s.agree(MAX, MIN), s -> s.agree(8, 8));
        });
  }

  private void changes() {
    promise(21);
    edge("Its CHANGES.", "none without NEEDS, most of a day, none when it is over",
        broken("int countChanges()", "bit(shared, h) == 1", "h < 15 && bit(shared, h) == 1"), () -> {
          crowd(2);
          due(x.changes(0, 1), 0);
          needs(0x5555, 0xAAAA);
          due(x.changes(0, 1), 15);
          x.at(14);
          due(x.changes(0, 1), 1);
          x.at(15);
          due(x.changes(0, 1), 0);
          x.at(16);
          due(x.changes(0, 1), 0);
        });
    edge("BEYOND likewise.", "one and the same",
        broken("public int changes", "!land.areTwo(a, b)", "!land.isPerson(a) || !land.isPerson(b)"), () -> {
          crowd(2);
          refused(BEYOND, s -> s.changes(0, 0), s -> s.changes(1, 1));
        });
    edge("BEYOND likewise.", "no such PEOPLE",
        broken("public int changes", "!land.areTwo(a, b)", "!land.isPerson(a) || a == b"), () -> {
          crowd(2);
          refused(BEYOND, s -> s.changes(0, 2), s -> s.changes(2, 0), s -> s.changes(-1, 0), s -> s.changes(0, -1),
              s -> s.changes(MAX, MIN));
        });
  }

  private void holder() {
    promise(22);
    edge("BEYOND likewise; HOUR.", "HOUR -1 and 16", broken("public int holder", "DAY - 1", "DAY"), () -> {
      crowd(2);
      refused(BEYOND, s -> s.holder(0, 1, 16), s -> s.holder(0, 1, -1), s -> s.holder(0, 1, MAX),
          s -> s.holder(0, 1, MIN));
      x.at(16);
      refused(BEYOND, s -> s.holder(0, 1, 16));
    });
    edge("BEYOND likewise; HOUR.", "one and the same",
        broken("public int holder", "!land.areTwo(a, b)", "!land.isPerson(a) || !land.isPerson(b)"), () -> {
          crowd(2);
          refused(BEYOND, s -> s.holder(0, 0, 3), s -> s.holder(1, 1, 3));
        });
    edge("BEYOND likewise; HOUR.", "no such PEOPLE",
        broken("public int holder", "!land.areTwo(a, b)", "!land.isPerson(a) || a == b"), () -> {
          crowd(2);
          refused(BEYOND, s -> s.holder(0, 2, 3), s -> s.holder(2, 0, 3), s -> s.holder(-1, 0, 3),
              s -> s.holder(0, -1, 3), s -> s.holder(MAX, MIN, 3));
        });
    edge("NONE: it isn't in LIGHT", "the dark HOUR alone",
        broken("int holderAt(", "bit(shared, hour) == 0", "bit(shared | dark, hour) == 0"), () -> {
          crowd(2);
          x.light(65535 - 16);
          refused(NONE, s -> s.holder(0, 1, 4));
          due(x.holder(0, 1, 3), 0);
          due(x.holder(0, 1, 5), 0);
        });
    edge("or not of THE REST", "the HOUR that went, not the one that comes",
        broken("void make(", "land.hoursLeft() & land.lit", "ALL_HOURS & land.lit"), () -> {
          crowd(2);
          x.at(4);
          refused(NONE, s -> s.holder(0, 1, 3), s -> s.holder(0, 1, 0));
          due(x.holder(0, 1, 4), 0);
          due(x.holder(0, 1, 15), 0);
          x.at(16);
          refused(NONE, s -> s.holder(0, 1, 15), s -> s.holder(0, 1, 0));
        });
    edge("BEYOND likewise; HOUR. NONE:", "nobody at a dark HOUR is BEYOND, not NONE",
        broken("public int holder", "!land.areTwo(a, b)",
            "land.areTwo(0, 1) && bit(land.lit, hour) == 1 && !land.areTwo(a, b)"), () -> {
          crowd(2);
          x.light(0);
          refused(BEYOND, s -> s.holder(0, 0, 4), s -> s.holder(0, 2, 4), s -> s.holder(0, 1, 16));
        });
  }

  private void gain() {
    promise(23);
    edge("(may be 0)", "no more than MATES would have",
        broken("public int gain", "- rest.metOf(a)", "+ 1 - rest.metOf(a)"), () -> {
          crowd(2);
          due(x.gain(0, 1), 0);
          needs(0x5555, 0xAAAA);
          due(x.gain(0, 1), 0);
          due(x.status(-1), 0);
          needs(0xAAAA, 0x5555);
          due(x.gain(0, 1), 16);
          x.at(16);
          due(x.gain(0, 1), 0);
        });
    edge("if just these two were MATES", "whoever their MATES are now",
        broken("public int gain", "rest.to.join(a, b);", ""), () -> {
          people(PERSON, PERSON, OLD);
          x.share(0, 2);
          needs(0x5555, 0);
          due(x.gain(0, 1), 0);
          due(x.of(0, 4), 2);
          due(x.of(1, 4), -1);
        });
    edge("BEYOND likewise.", "one and the same",
        broken("public int gain", "!land.areTwo(a, b)", "!land.isPerson(a) || !land.isPerson(b)"), () -> {
          crowd(2);
          refused(BEYOND, s -> s.gain(0, 0), s -> s.gain(1, 1));
        });
    edge("BEYOND likewise.", "no such PEOPLE",
        broken("public int gain", "!land.areTwo(a, b)", "!land.isPerson(a) || a == b"), () -> {
          crowd(2);
          refused(BEYOND, s -> s.gain(0, 2), s -> s.gain(2, 0), s -> s.gain(-1, 0), s -> s.gain(0, -1),
              s -> s.gain(MAX, MIN));
        });
  }

  private void pairs() {
    promise(24);
    edge("How many NEEDS the best PAIRING MEETS.", "of nobody, of one, of all eight, when the day is over",
        broken("int bestOf(", "best.length - 1", "best.length - 2"), () -> {
          due(x.pairs(), 0);
          crowd(1);
          needs(65535);
          due(x.pairs(), 16);
          crowd(7);
          needs(65535, 65535, 65535, 65535, 65535, 65535, 65535, 65535);
          due(x.pairs(), 64);
          x.light(0);
          due(x.pairs(), 128);
          x.at(16);
          due(x.pairs(), 0);
        });
    edge("How many NEEDS the best PAIRING MEETS.", "of seven one is alone",
        broken("void weighByAgreements()", "pairings.value(a, a,", "pairings.value(a, a, 0 &"), () -> {
          crowd(7);
          needs(65535, 65535, 65535, 65535, 65535, 65535, 65535);
          due(x.pairs(), 64);
        });
  }

  private void mate() {
    promise(25);
    edge("is alone if that does", "of one, of three who are alike",
        broken("int firstBest(", "int other = first;", "int other = first + 1;"), () -> {
          crowd(1);
          due(x.mate(0), -1);
          crowd(2);
          due(x.mate(0), -1);
          due(x.mate(1), 2);
          due(x.mate(2), 1);
        });
    edge("is alone if that does", "a later one, if that of the first doesn't",
        broken("int firstBest(", "worthWith(set, first, other) == best[set]", "true"), () -> {
          crowd(3);
          needs(0b0011, 0b1100, 0b1111);
          due(x.mate(2), -1);
          due(x.mate(0), 1);
          due(x.mate(1), 0);
        });
    edge("else with the least MATE that does", "of eight who are alike",
        broken("int firstMateOf(", "if (other == person)", "if (other == person && first > 0)"), () -> {
          crowd(8);
          for (int p = 0; p < 8; p++) {
            due(x.mate(p), p ^ 1);
          }
        });
    edge("-1: alone", "the last of seven",
        broken("int firstMateOf(", "other == first ? NOBODY : other", "other"), () -> {
          crowd(7);
          needs(1, 2, 1, 2, 1, 2, 65535);
          due(x.mate(6), -1);
          due(x.mate(0), 1);
          due(x.mate(5), 4);
        });
    edge("BEYOND.", "no such PERSON",
        broken("public int mate", "!land.isPerson(person)", "person < 0 || person > land.people"), () -> {
          crowd(2);
          refused(BEYOND, s -> s.mate(2), s -> s.mate(-1), s -> s.mate(8), s -> s.mate(MIN), s -> s.mate(MAX));
          x = new SharedShadow();
          refused(BEYOND, s -> s.mate(0));
        });
  }

  private void ways() {
    promise(26);
    edge("How many PAIRINGS there are that MEET as many.", "of nobody one, of one one",
        broken("void weigh(", "number[0] = 1", "number[0] = 0"), () -> {
          due(x.ways(), 1);
          crowd(1);
          due(x.ways(), 1);
        });
    edge("How many PAIRINGS there are that MEET as many.", "all of seven and of eight who are alike",
        broken("void weigh(", "set < best.length", "set < best.length - 1"), () -> {
          crowd(7);
          due(x.ways(), 105);
          crowd(1);
          due(x.ways(), 105);
          x.at(16);
          due(x.ways(), 105);
        });
    edge("How many PAIRINGS there are that MEET as many.", "just one",
        broken("void weighSet(", "number[set] = 0;\n        }", "}"), () -> {
          crowd(4);
          needs(3, 0, 15, 12);
          // 0 with 1 and 2 with 3 MEET 2 and 4; 0 with 2 and 1 with 3: 4 and 2; 0 with 3 and 1 with 2: 4 and 4.
          due(x.ways(), 1);
          due(x.pairs(), 8);
        });
  }

  private void broken() {
    promise(27);
    edge("Two who aren't MATES", "not two who are", broken("public int broken", "land.partner[a] != b && ", ""), () -> {
      alternating();
      needs(2, 1);
      refused(NONE, s -> s.broken());
    });
    edge("both would by the best AGREEMENT of theirs have more NEEDS MET, each by itself",
        "not one more and one as many",
        broken("boolean wouldRatherAgree(", "agreement.metOfSide(1) > rest", "agreement.metOfSide(1) >= rest"), () -> {
          crowd(4);
          x.share(0, 2);
          x.share(1, 3);
          // Each has it at even HOURS; 0 needs an odd one.
          needs(2, 1, 0, 0);
          refused(NONE, s -> s.broken());
        });
    edge("both would by the best AGREEMENT of theirs have more NEEDS MET, each by itself", "not as many and one more",
        broken("boolean wouldRatherAgree(", "agreement.metOfSide(0) > rest", "agreement.metOfSide(0) >= rest"), () -> {
          crowd(4);
          x.share(0, 2);
          x.share(1, 3);
          needs(1, 2, 0, 0);
          refused(NONE, s -> s.broken());
        });
    edge("10 times the lesser number, and the other one; the first so", "0 and 1: 1; 6 and 7: 67",
        broken("public int broken", "10 * a + b", "a == 0 ? 10 * b : 10 * a + b"), () -> {
          crowd(8);
          x.share(0, 2);
          x.share(1, 3);
          needs(2, 8);
          due(x.broken(), 1);
          x.part(0);
          x.part(1);
          x.share(4, 6);
          x.share(5, 7);
          needs(0, 0, 0, 0, 0, 0, 1, 4);
          due(x.broken(), 67);
        });
    edge("NONE.", "nobody, one, the day is over", broken("public int broken", "return found(NONE)", "return 0"), () -> {
      refused(NONE, s -> s.broken());
      crowd(1);
      refused(NONE, s -> s.broken());
      crowd(3);
      x.share(0, 2);
      x.share(1, 3);
      needs(2, 8);
      x.at(16);
      refused(NONE, s -> s.broken());
    });
  }

  private void fits() {
    promise(28);
    edge("from now on", "the first number stands for the HOUR that comes",
        broken("boolean isShadeOf(", "told.numbers[h - first]", "told.numbers[h]"), () -> {
          crowd(2);
          x.at(1);
          row(0, 8, 1, 2, 1);
          due(x.fits(0), 1);
          row(0, 8, 2, 1, 2);
          due(x.fits(0), 0);
          row(0, 8, 1, 1, 1);
          due(x.fits(0), 0);
        });
    edge("are just the sets that a sheet tells", "not both of two MATES, nor none of them",
        broken("boolean weighByShade(", "rest.isShadeOf(a, told) && rest.isShadeOf(b, told)",
            "rest.isShadeOf(a, told) || rest.isShadeOf(b, told)"), () -> {
          crowd(2);
          row(0, 8, 3);
          due(x.fits(0), 0);
          row(0, 8, 0);
          due(x.fits(0), 0);
          row(0, 8, 1);
          due(x.fits(0), 1);
        });
    edge("are just the sets that a sheet tells", "an empty sheet: all PAIRINGS",
        broken("public int fits", "weighByShade(sheets[s]) ?",
            "sheets[s].length > 0 && weighByShade(sheets[s]) ?"), () -> {
          crowd(4);
          x.sheet(0, 16, 0);
          due(x.fits(0), 3);
          x.at(16);
          due(x.fits(0), 3);
        });
    edge("are just the sets that a sheet tells", "nobody: the empty set alone",
        broken("boolean tellsSetsOf(", "~everybody", "~(everybody | 1)"), () -> {
          row(0, 8, 0, 0, 0);
          due(x.fits(0), 1);
          row(0, 8, 0, 0, 1);
          due(x.fits(0), 0);
        });
    edge("are just the sets that a sheet tells", "one who isn't there: none",
        broken("boolean weighByShade(", "!told.tellsSetsOf(land.everybody(), DAY - land.hour)", "false"), () -> {
          crowd(1);
          row(0, 8, 1);
          due(x.fits(0), 1);
          row(0, 8, 3);
          due(x.fits(0), 0);
          row(0, 32, MIN + 1);
          due(x.fits(0), 0);
        });
    edge("are just the sets that a sheet tells", "all 16 HOURS of a day",
        broken("boolean isShadeOf(", "h < DAY", "h < DAY - 1"), () -> {
          crowd(2);
          row(0, 8, 1, 2, 1, 2, 1, 2, 1, 2, 1, 2, 1, 2, 1, 2, 1, 2);
          due(x.fits(0), 1);
          x.write(0, 15, 1);
          due(x.fits(0), 0);
        });
    edge("numbers beyond the day don't count", "a 17th, the second at HOUR 15, all when it is over",
        broken("boolean tellsSetsOf(", " && i < hours", ""), () -> {
          crowd(2);
          row(0, 8, 1, 2, 1, 2, 1, 2, 1, 2, 1, 2, 1, 2, 1, 2, 1, 2, 99);
          due(x.fits(0), 1);
          x.at(15);
          row(0, 8, 1, -1, 77);
          due(x.fits(0), 1);
          x.at(16);
          row(0, 8, 77, -1);
          due(x.fits(0), 1);
        });
    edge("(SUN as now", "whoever are MATES now", broken("boolean weighByShade(", "rest.to.separate(a);", ""), () -> {
      crowd(3);
      x.share(0, 1);
      // 0 alone: 1 over 2. 1 alone: 0 over 2. 2 alone: 0 over 1.
      row(0, 8, 3);
      due(x.fits(0), 2);
      row(0, 8, 5);
      due(x.fits(0), 1);
      due(x.of(0, 4), 1);
    });
  }

  private void fitsRefused() {
    edge("BEYOND: no such sheet. MISSING.", "sheet -1 and 4",
        broken("private static boolean isSheet", "SHEETS - 1", "SHEETS"),
        () -> refused(BEYOND, s -> s.fits(4), s -> s.fits(-1), s -> s.fits(MIN), s -> s.fits(MAX)));
    edge("MISSING.", "at first, and made so; not when it is empty",
        broken("public int fits", "lack != NO_FINDING", "lack == BEYOND"), () -> {
          refused(MISSING, s -> s.fits(0), s -> s.fits(3));
          x.sheet(3, 8, 0);
          due(x.fits(3), 1);
          x.sheet(3, 0, 0);
          refused(MISSING, s -> s.fits(3));
        });
  }

  private void may() {
    promise(29);
    edge("(who is alone counts as the own number)", "of one; of three",
        broken("int matesOf(", "other = 0;", "other = 0; person != other && "), () -> {
          crowd(1);
          x.sheet(0, 8, 0);
          due(x.may(0, 0), 1);
          crowd(2);
          due(x.may(0, 0), 7);
          due(x.may(0, 2), 7);
        });
    edge("(who is alone counts as the own number)", "never of an even number",
        broken("int worthWith(", " && (a != b || Integer.bitCount(set) % 2 == 1)", ""), () -> {
          crowd(2);
          x.sheet(0, 8, 0);
          due(x.may(0, 0), 2);
          due(x.may(0, 1), 1);
          crowd(6);
          due(x.may(0, 7), 127);
        });
    edge("Who may be the MATE of a PERSON by these, as a set", "the empty set, if no PAIRING fits",
        broken("public int may", ": 0;", ": 1 << person;"), () -> {
          crowd(1);
          row(0, 8, 2);
          due(x.may(0, 0), 0);
          row(0, 8, 0);
          due(x.may(0, 0), 0);
        });
    edge("BEYOND: no such sheet. MISSING.", "sheet -1 and 4",
        broken("public int may", "lack != NO_FINDING", "lack == MISSING"), () -> {
          crowd(1);
          refused(BEYOND, s -> s.may(4, 0), s -> s.may(-1, 0), s -> s.may(MIN, 0), s -> s.may(MAX, 9));
        });
    edge("MISSING. BEYOND: no such PERSON.", "a MISSING sheet is told ahead of the PERSON",
        broken("public int may", "int lack = lackOf(s);",
            "int lack = land.isPerson(person) ? lackOf(s) : BEYOND;"), () -> {
          crowd(1);
          refused(MISSING, s -> s.may(0, 0), s -> s.may(3, 5), s -> s.may(3, -1));
        });
    edge("BEYOND: no such PERSON.", "the number of PEOPLE, -1",
        broken("public int may", "!land.isPerson(person)", "person < 0 || person > land.people"), () -> {
          crowd(2);
          x.sheet(0, 8, 0);
          refused(BEYOND, s -> s.may(0, 2), s -> s.may(0, -1), s -> s.may(0, 8), s -> s.may(0, MIN),
              s -> s.may(0, MAX));
        });
  }
}
