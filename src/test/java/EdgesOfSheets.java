/** Promises 37 to 43: spots and sheets. */
final class EdgesOfSheets extends Edges {
  EdgesOfSheets() {
    hold();
    as();
    sheet();
    sheetRefused();
    write();
    copy();
    copyRefused();
    load();
    judge();
  }

  private void hold() {
    promise(37);
    edge("or nothing (-1): 1.", "nothing where nothing was, and where a PERSON was",
        broken("public int hold(", "person != NOBODY && ", ""), () -> {
          crowd(1);
          due(x.hold(0, -1), 1);
          due(x.hold(0, 0), 1);
          due(x.count(7), 1);
          due(x.hold(0, -1), 1);
          due(x.count(7), 0);
        });
    edge("A SPOT holds a PERSON", "the first and the last SPOT, the first and the last PERSON",
        broken("public int hold(", "SPOTS - 1", "SPOTS - 2"), () -> {
          crowd(8);
          due(x.hold(0, 7), 1);
          due(x.hold(9, 0), 1);
          due(x.as(0, 0), 7);
          due(x.as(9, 0), 0);
        });
    edge("BEYOND.", "SPOT -1 and 10",
        broken("public int hold(", "!isWithin(spot, SPOTS - 1) ||", "spot > SPOTS ||"), () -> {
          crowd(1);
          refused(BEYOND, s -> s.hold(10, 0), s -> s.hold(-1, 0), s -> s.hold(10, -1), s -> s.hold(MAX, 0),
              s -> s.hold(MIN, 0));
          due(x.count(7), 0);
        });
    edge("BEYOND.", "PERSON -2 and the number of PEOPLE",
        broken("public int hold(", "!land.isPerson(person)", "person != land.people && !land.isPerson(person)"), () -> {
          crowd(2);
          refused(BEYOND, s -> s.hold(0, 2), s -> s.hold(0, -2), s -> s.hold(0, 8), s -> s.hold(0, MIN),
              s -> s.hold(0, MAX));
          due(x.count(7), 0);
        });
  }

  private void as() {
    promise(38);
    edge("as one of a kind (0 to 6)", "0 and 6", broken("public int as", "KINDS - 1", "KINDS - 2"), () -> {
      people(DUELLIST);
      x.hold(0, 0);
      due(x.as(0, 0), 0);
      due(x.as(0, 6), 0);
    });
    edge("BEYOND.", "kind -1 and 7",
        broken("public int as", "!isWithin(kind, KINDS - 1)", "!isWithin(kind, KINDS)"), () -> {
          people(DUELLIST);
          x.hold(0, 0);
          refused(BEYOND, s -> s.as(0, 7), s -> s.as(0, -1), s -> s.as(0, MIN), s -> s.as(0, MAX));
        });
    edge("BEYOND. MISSING: it holds nothing.", "no such kind is told ahead of nothing held",
        broken("public int as", "!isWithin(kind, KINDS - 1)", "kind < 0"),
        () -> refused(BEYOND, s -> s.as(0, 7), s -> s.as(0, -1)));
    edge("BEYOND.", "SPOT -1 and 10",
        broken("public int as", "!isWithin(spot, SPOTS - 1)", "spot < 0 || spot > SPOTS"),
        () -> refused(BEYOND, s -> s.as(10, 0), s -> s.as(-1, 0), s -> s.as(MIN, 0), s -> s.as(MAX, 0)));
    edge("MISSING: it holds nothing.", "nothing yet, nothing any more",
        broken("public int as", "person == NOBODY", "person == NOBODY && spot > 0"), () -> {
          crowd(1);
          refused(MISSING, s -> s.as(0, 0), s -> s.as(9, 6));
          x.hold(0, 0);
          x.hold(0, -1);
          refused(MISSING, s -> s.as(0, 0));
        });
    edge("KIND: it isn't of that kind, nor of one under it.", "a kind above its own is not of it",
        broken("boolean isOfKind(", "k == wanted",
            "k == wanted || wanted > 0 && UNDER[wanted] == kind[person]"), () -> {
          people(OLD, LENDER, STRONG);
          x.hold(0, 0);
          x.hold(1, 1);
          x.hold(2, 2);
          refused(KIND, s -> s.as(0, LENDER), s -> s.as(0, BEGGAR), s -> s.as(1, BEGGAR), s -> s.as(2, DUELLIST),
              s -> s.as(2, OLD));
        });
    edge("KIND: it isn't of that kind, nor of one under it.", "all the levels up to PERSON",
        broken("boolean isOfKind(", "level < KINDS", "level < 3"), () -> {
          people(BEGGAR);
          x.hold(0, 0);
          due(x.as(0, BEGGAR), 0);
          due(x.as(0, LENDER), 0);
          due(x.as(0, OLD), 0);
          due(x.as(0, PERSON), 0);
          refused(KIND, s -> s.as(0, STRONG), s -> s.as(0, TWIN), s -> s.as(0, DUELLIST));
        });
  }

  private void sheet() {
    promise(39);
    edge("A sheet has n numbers", "none, 40",
        broken("public int sheet", "n > MOST_NUMBERS", "n >= MOST_NUMBERS"), () -> {
          due(x.sheet(0, 8, 0), 0);
          due(x.load(0), 0);
          due(x.sheet(0, 32, 40), 40);
        });
    edge("all 0", "also those that were there, and those behind a shorter row",
        broken("void renew(", "numbers[i] = 0;", "numbers[i] = i < 2 ? numbers[i] : 0;"), () -> {
          crowd(3);
          suns(1, 1, 1);
          row(0, 8, 5, 6, 7);
          due(x.sheet(0, 8, 1), 1);
          due(x.sheet(0, 8, 3), 3);
          due(x.load(0), 3);
          due(x.count(4), 0);
        });
    edge("of 8, 16 or 32 bits", "each of these", broken("public int sheet", "bits == 32", "bits == 31"), () -> {
      due(x.sheet(0, 8, 2), 2);
      due(x.sheet(1, 16, 2), 2);
      due(x.sheet(2, 32, 2), 2);
    });
    edge("bits 0: it is MISSING: n (0 if it is MISSING)", "0 for any n",
        broken("void renew(", "newBits == 0 ? 0 :", ""), () -> {
          x.sheet(0, 8, 3);
          due(x.sheet(0, 0, 40), 0);
          refused(MISSING, s -> s.write(0, 0, 1));
          due(x.sheet(0, 0, 0), 0);
          due(x.sheet(0, 0, 1), 0);
        });
  }

  private void sheetRefused() {
    edge("BEYOND: no such sheet, other bits.", "sheet -1 and 4",
        broken("private static boolean isSheet", "isWithin(s, SHEETS - 1)", "s <= SHEETS - 1"),
        () -> refused(BEYOND, s -> s.sheet(4, 8, 1), s -> s.sheet(-1, 8, 1), s -> s.sheet(MIN, 8, 1),
            s -> s.sheet(MAX, 8, 1), s -> s.sheet(4, 0, 1)));
    edge("BEYOND: no such sheet, other bits.", "bits next to those",
        broken("public int sheet", "bits == 8 ||", "bits == 8 || bits == 24 ||"), () -> {
          int[] other = {-1, 1, 7, 9, 15, 17, 24, 31, 33, 64, -8, MIN, MAX};
          for (int bits : other) {
            refused(BEYOND, s -> s.sheet(0, bits, 1));
          }
          refused(MISSING, s -> s.load(0));
        });
    edge("BEYOND: no such sheet, other bits. SIZE: n is below 0", "these are told ahead of n",
        broken("public int sheet", "return found(BEYOND)", "return found(n < 0 ? SIZE : BEYOND)"),
        () -> refused(BEYOND, s -> s.sheet(4, 8, -1), s -> s.sheet(0, 9, -1)));
    edge("SIZE: n is below 0", "-1", broken("public int sheet", "n < 0", "n < -1"), () -> {
      x.sheet(0, 8, 2);
      refused(SIZE, s -> s.sheet(0, 8, -1), s -> s.sheet(0, 16, MIN), s -> s.sheet(3, 32, -1));
      due(x.write(0, 1, 1), 1);
    });
    edge("(also with bits 0)", "n of -1", broken("public int sheet", "n < 0", "n < 0 && bits > 0"), () -> {
      x.sheet(0, 8, 2);
      refused(SIZE, s -> s.sheet(0, 0, -1), s -> s.sheet(0, 0, MIN));
      due(x.write(0, 1, 1), 1);
    });
    edge("BEYOND: n is above 40", "41", broken("public int sheet", "n > MOST_NUMBERS", "n > MOST_NUMBERS + 1"), () -> {
      x.sheet(0, 8, 2);
      refused(BEYOND, s -> s.sheet(0, 8, 41), s -> s.sheet(0, 16, MAX));
      due(x.write(0, 1, 1), 1);
    });
    edge("BEYOND: n is above 40 (also with bits 0)", "41",
        broken("public int sheet", "n > MOST_NUMBERS", "n > MOST_NUMBERS && bits > 0"), () -> {
          x.sheet(0, 8, 2);
          refused(BEYOND, s -> s.sheet(0, 0, 41), s -> s.sheet(0, 0, MAX));
          due(x.write(0, 1, 1), 1);
        });
  }

  /** Number 0 of a sheet, if it is 0 to 99. */
  private int first(int s) {
    x.change(0, 1, 98);
    x.load(s);
    return x.of(0, 1);
  }

  private void write() {
    promise(40);
    edge("Number i of a sheet becomes v", "the first and the last",
        broken("public int write", "sheets[s].length - 1", "sheets[s].length - 2"), () -> {
          x.sheet(0, 8, 40);
          due(x.write(0, 0, 1), 1);
          due(x.write(0, 39, 1), 1);
          x.sheet(0, 8, 1);
          due(x.write(0, 0, 1), 1);
        });
    edge("(its lowest bits)", "of 8", broken("void put(", "(byte) v", "(byte) Math.min(v, 127)"), () -> {
      crowd(1);
      row(0, 8, 256 + 5);
      due(first(0), 5);
      row(0, 8, -256 + 6);
      due(first(0), 6);
      row(0, 8, MIN);
      due(first(0), 0);
    });
    edge("(its lowest bits)", "of 16", broken("void put(", "(short) v", "v"), () -> {
      crowd(1);
      row(0, 16, 65536 + 5);
      due(first(0), 5);
      row(0, 16, -65536 + 6);
      due(first(0), 6);
      row(0, 16, 256 + 7);
      due(x.load(0), 0);
    });
    edge("(its lowest bits)", "of 32: all", broken("void put(", ": v;", ": (short) v;"), () -> {
      crowd(1);
      row(0, 32, 65536 + 5);
      due(x.load(0), 0);
      row(0, 32, MIN);
      due(x.load(0), 0);
      row(0, 32, MAX);
      due(x.load(0), 0);
    });
    edge("BEYOND: no such sheet. MISSING.", "sheet -1 and 4, ahead of all",
        broken("private int lackOf", "return BEYOND", "return MISSING"),
        () -> refused(BEYOND, s -> s.write(4, 0, 1), s -> s.write(-1, 99, 1), s -> s.write(MIN, 0, 1),
            s -> s.write(MAX, -1, 1)));
    edge("MISSING. BEYOND: no such number.", "a MISSING sheet has no number to be told of",
        broken("public int write", "int lack = lackOf(s);", "int lack = isSheet(s) && i < 0 ? BEYOND : lackOf(s);"),
        () -> refused(MISSING, s -> s.write(0, 0, 1), s -> s.write(3, -1, 1), s -> s.write(3, 40, 1)));
    edge("BEYOND: no such number.", "the number of numbers, -1",
        broken("public int write", "sheets[s].length - 1", "MOST_NUMBERS - 1"), () -> {
          crowd(1);
          x.sheet(0, 8, 2);
          refused(BEYOND, s -> s.write(0, 2, 1), s -> s.write(0, -1, 1), s -> s.write(0, 40, 1),
              s -> s.write(0, MIN, 1), s -> s.write(0, MAX, 1));
          x.sheet(1, 32, 0);
          refused(BEYOND, s -> s.write(1, 0, 1));
          due(first(0), 0);
        });
  }

  private void numbersAre(int s, int... numbers) {
    for (int p = 0; p < numbers.length; p++) {
      x.change(p, 1, 98);
    }
    due(x.load(s), numbers.length);
    for (int p = 0; p < numbers.length; p++) {
      due(x.of(p, 1), numbers[p]);
    }
  }

  private void copy() {
    promise(41);
    String move = "System.arraycopy(sheets[s].numbers, from, sheets[t].numbers, to, n);";
    edge("(as they all were)", "up its own row",
        broken("public int copy", move,
            "for (int i = 0; i < n; i++) {\n      "
                + "sheets[t].numbers[to + i] = sheets[s].numbers[from + i];\n    }"), () -> {
          crowd(5);
          row(0, 8, 1, 2, 3, 4, 5);
          due(x.copy(0, 0, 0, 1, 4), 4);
          numbersAre(0, 1, 1, 2, 3, 4);
        });
    edge("(as they all were)", "down its own row",
        broken("public int copy", move,
            "for (int i = n - 1; i >= 0; i--) {\n      "
                + "sheets[t].numbers[to + i] = sheets[s].numbers[from + i];\n    }"), () -> {
          crowd(5);
          row(0, 8, 1, 2, 3, 4, 5);
          due(x.copy(0, 1, 0, 0, 4), 4);
          numbersAre(0, 2, 3, 4, 5, 5);
        });
    edge("n numbers of a sheet from one on come to another one from one on", "no number: 0, also behind the last",
        broken("boolean hasRun(", "from <= length - n", "from < length - n + (n > 0 ? 1 : 0)"), () -> {
          x.sheet(0, 8, 5);
          x.sheet(1, 8, 0);
          due(x.copy(0, 0, 1, 0, 0), 0);
          due(x.copy(0, 5, 1, 0, 0), 0);
          due(x.copy(1, 0, 0, 5, 0), 0);
          due(x.status(-1), 0);
        });
    edge("n numbers of a sheet from one on come to another one from one on", "all 40",
        broken("boolean hasRun(", "n <= length", "n < length"), () -> {
          crowd(1);
          x.sheet(0, 32, 40);
          x.sheet(1, 32, 40);
          x.write(0, 0, 7);
          due(x.copy(0, 0, 1, 0, 40), 40);
          due(x.copy(0, 39, 1, 39, 1), 1);
          due(first(1), 7);
        });
  }

  private void copyRefused() {
    edge("BEYOND: no such sheet (either).", "the first one", broken("public int copy", "!isSheet(s) || ", ""), () -> {
      x.sheet(0, 8, 1);
      refused(BEYOND, s -> s.copy(4, 0, 0, 0, 1), s -> s.copy(-1, 0, 0, 0, 1), s -> s.copy(4, 0, 2, 0, 1),
          s -> s.copy(MIN, 0, MAX, 0, -1));
    });
    edge("BEYOND: no such sheet (either). MISSING: one is.", "the other one, ahead of one that is MISSING",
        broken("public int copy", " || !isSheet(t)", " || !isSheet(t) && !sheets[s].isMissing()"), () -> {
          x.sheet(0, 8, 1);
          refused(BEYOND, s -> s.copy(0, 0, 4, 0, 1), s -> s.copy(0, 0, -1, 0, 1), s -> s.copy(2, 0, 4, 0, 1));
        });
    edge("MISSING: one is.", "the first one", broken("public int copy", "sheets[s].isMissing() || ", ""), () -> {
      x.sheet(0, 8, 1);
      refused(MISSING, s -> s.copy(1, 0, 0, 0, 0), s -> s.copy(1, 0, 0, -1, -1), s -> s.copy(1, 0, 2, 0, 0));
    });
    edge("MISSING: one is.", "the other one", broken("public int copy", " || sheets[t].isMissing()", ""), () -> {
      x.sheet(0, 8, 1);
      refused(MISSING, s -> s.copy(0, 0, 1, 0, 0), s -> s.copy(0, -1, 1, 0, 0));
    });
    edge("KIND: they are not of as many bits.", "told ahead of the numbers",
        broken("public int copy", "sheets[s].bits != sheets[t].bits", "sheets[s].bits > sheets[t].bits"), () -> {
          x.sheet(0, 8, 1);
          x.sheet(1, 16, 1);
          x.sheet(2, 32, 1);
          refused(KIND, s -> s.copy(0, 0, 1, 0, 1), s -> s.copy(1, 0, 0, 0, 0), s -> s.copy(1, -1, 2, 0, 1),
              s -> s.copy(2, 0, 0, 0, 99));
        });
    edge("BEYOND: one has not so many", "the first one",
        broken("public int copy", "!sheets[s].hasRun(from, n) || ", ""), () -> {
          x.sheet(0, 8, 3);
          x.sheet(1, 8, 9);
          refused(BEYOND, s -> s.copy(0, 0, 1, 0, 4), s -> s.copy(0, 3, 1, 0, 1), s -> s.copy(0, 2, 1, 0, 2));
        });
    edge("BEYOND: one has not so many", "the other one",
        broken("public int copy", " || !sheets[t].hasRun(to, n)", ""), () -> {
          x.sheet(0, 8, 9);
          x.sheet(1, 8, 3);
          refused(BEYOND, s -> s.copy(0, 0, 1, 0, 4), s -> s.copy(0, 0, 1, 3, 1), s -> s.copy(0, 0, 1, 2, 2));
        });
    edge("BEYOND: one has not so many", "from or to and n that wrap around",
        broken("boolean hasRun(", "from <= length - n", "from + n <= length"), () -> {
          x.sheet(0, 8, 3);
          x.sheet(1, 8, 3);
          refused(BEYOND, s -> s.copy(0, MAX, 1, 0, 1), s -> s.copy(0, 0, 1, MAX, 1), s -> s.copy(0, MAX, 1, MAX, 3),
              s -> s.copy(0, 1, 1, 1, MAX));
        });
    edge("or from, to or n is below 0", "from", broken("boolean hasRun(", "from >= 0 && ", ""), () -> {
      x.sheet(0, 8, 3);
      refused(BEYOND, s -> s.copy(0, -1, 0, 0, 1), s -> s.copy(0, MIN, 0, 0, 1), s -> s.copy(0, -1, 0, 0, 0));
    });
    edge("or from, to or n is below 0", "to",
        broken("public int copy", "sheets[t].hasRun(to, n)", "sheets[t].hasRun(Math.max(to, 0), n)"), () -> {
          x.sheet(0, 8, 3);
          refused(BEYOND, s -> s.copy(0, 0, 0, -1, 1), s -> s.copy(0, 0, 0, MIN, 1), s -> s.copy(0, 0, 0, -1, 0));
        });
    edge("or from, to or n is below 0", "n", broken("boolean hasRun(", "n >= 0 && ", ""), () -> {
      x.sheet(0, 8, 3);
      refused(BEYOND, s -> s.copy(0, 0, 0, 0, -1), s -> s.copy(0, 2, 0, 2, -1), s -> s.copy(0, 0, 0, 0, MIN));
    });
  }

  private void load() {
    promise(42);
    edge("It ends at the first that isn't 0 to 99", "0 and 99 are",
        broken("public int load", "MOST_SUN", "MOST_SUN - 1"), () -> {
          crowd(3);
          suns(5, 5, 5);
          row(0, 8, 0, 99, 1);
          due(x.load(0), 3);
          due(x.of(0, 1), 0);
          due(x.of(1, 1), 99);
        });
    edge("It ends at the first that isn't 0 to 99", "100 isn't; what stands ahead has come, what behind hasn't",
        broken("public int load", "MOST_SUN", "MOST_SUN + 1"), () -> {
          crowd(3);
          suns(5, 5, 5);
          row(0, 8, 1, 100, 2);
          due(x.load(0), 1);
          due(x.of(0, 1), 1);
          due(x.of(1, 1), 5);
          due(x.of(2, 1), 5);
        });
    edge("It ends at the first that isn't 0 to 99", "-1 isn't, be it the first of all",
        broken("public int load", "!isWithin(sheets[s].numbers[i], MOST_SUN)",
            "sheets[s].numbers[i] > MOST_SUN"), () -> {
          crowd(2);
          suns(5, 5);
          row(0, 8, 255, 1);
          due(x.load(0), 0);
          due(x.count(4), 10);
        });
    edge("or for which there is no PERSON", "one number more than PEOPLE, nobody at all",
        broken("public int load", "Math.min(sheets[s].length, land.people)", "sheets[s].length"), () -> {
          row(0, 8, 1, 2, 3);
          due(x.load(0), 0);
          crowd(2);
          due(x.load(0), 2);
          due(x.count(4), 3);
        });
    edge("Numbers of a sheet, from its begin on", "no more than there are: one less than PEOPLE, none",
        broken("public int load", "Math.min(sheets[s].length, land.people)", "land.people"), () -> {
          crowd(3);
          suns(5, 6, 7);
          row(0, 8, 1, 2);
          due(x.load(0), 2);
          due(x.of(2, 1), 7);
          x.sheet(0, 8, 0);
          due(x.load(0), 0);
          due(x.of(0, 1), 1);
        });
    edge("BEYOND: no such sheet. MISSING.", "sheet -1 and 4",
        broken("private static boolean isSheet", "SHEETS - 1", "SHEETS"),
        () -> refused(BEYOND, s -> s.load(4), s -> s.load(-1), s -> s.load(MIN), s -> s.load(MAX)));
    edge("MISSING.", "a MISSING one, not an empty one",
        broken("public int load", "return found(lack)", "return lack == MISSING ? 0 : found(lack)"), () -> {
          crowd(1);
          refused(MISSING, s -> s.load(0), s -> s.load(3));
          x.sheet(3, 16, 0);
          due(x.load(3), 0);
          x.sheet(3, 0, 0);
          refused(MISSING, s -> s.load(3));
        });
  }

  private void judge() {
    promise(43);
    edge("0 if so", "an empty sheet, all 16 HOURS",
        broken("boolean isShadowSet(", "hour < DAY &&", "hour < DAY - 1 &&"), () -> {
          alternating();
          x.sheet(0, 8, 0);
          due(x.judge(0), 0);
          row(0, 8, 1, 2, 1, 2, 1, 2, 1, 2, 1, 2, 1, 2, 1, 2, 1, 2);
          due(x.judge(0), 0);
          x.at(16);
          x.sheet(0, 8, 0);
          due(x.judge(0), 0);
        });
    edge("else 1 and the place of the first that isn't so", "the first: 1; the last: 16",
        broken("public int judge", "return 1 + i", "return i"), () -> {
          alternating();
          row(0, 8, 2, 2);
          due(x.judge(0), 1);
          row(0, 8, 1, 2, 1, 2, 1, 2, 1, 2, 1, 2, 1, 2, 1, 2, 1, 1);
          due(x.judge(0), 16);
        });
    edge("(or that stands for no HOUR of THE REST)",
        "a 17th: 17; the second at HOUR 15; the first when the day is over",
        broken("boolean isShadowSet(", "hour >= first && hour < DAY &&", "hour >= DAY ||"), () -> {
          alternating();
          row(0, 8, 1, 2, 1, 2, 1, 2, 1, 2, 1, 2, 1, 2, 1, 2, 1, 2, 0);
          due(x.judge(0), 17);
          x.at(15);
          row(0, 8, 1, 2);
          due(x.judge(0), 2);
          x.at(16);
          row(0, 8, 0);
          due(x.judge(0), 1);
        });
    edge("who HAS a shadow (sets)", "nobody in the dark, and of nobody",
        broken("public int judge", "if (!rest", "if (sheets[s].numbers[i] == 0 || !rest"), () -> {
          row(0, 8, 0, 0);
          due(x.judge(0), 0);
          crowd(1);
          due(x.judge(0), 1);
          x.light(0);
          due(x.judge(0), 0);
        });
    edge("BEYOND: no such sheet. MISSING.", "sheet -1 and 4",
        broken("private static boolean isSheet", "SHEETS - 1", "SHEETS"),
        () -> refused(BEYOND, s -> s.judge(4), s -> s.judge(-1), s -> s.judge(MIN), s -> s.judge(MAX)));
    edge("MISSING.", "a MISSING one, not an empty one",
        broken("public int judge", "return found(lack)", "return lack == MISSING ? 0 : found(lack)"), () -> {
          refused(MISSING, s -> s.judge(0), s -> s.judge(3));
          x.sheet(3, 16, 0);
          due(x.judge(3), 0);
          x.sheet(3, 0, 0);
          refused(MISSING, s -> s.judge(3));
        });
  }
}
