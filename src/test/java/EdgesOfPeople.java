/** Promises 1 to 8: a new object, people, pairs, light. */
final class EdgesOfPeople extends Edges {
  EdgesOfPeople() {
    newObject();
    person();
    of();
    change();
    share();
    part();
    light();
    claim();
  }

  private void newObject() {
    promise(1);
    edge("no PEOPLE", "number 0 isn't there", broken("class Land", "int people = 0", "int people = 1"), () -> {
      due(x.count(1), 0);
      refused(BEYOND, s -> s.of(0, 0));
    });
    edge("THE TAPE is empty", "no bytes", broken("class Tape", "int length = 0", "int length = 1"), () -> {
      due(x.count(5), 0);
      due(x.wipe(), 0);
    });
    edge("no image is kept", "undo() has nothing, tear() neither",
        broken("class", "isKept = false", "isKept = true"), () -> {
          refused(NONE, s -> s.undo());
          due(x.tear(), 0);
        });
    edge("All as at first", "another object's past isn't this one's",
        broken("class", "private final int[] findings", "private static final int[] findings"), () -> {
          new SharedShadow().person(-1);
          due(new SharedShadow().status(-1), 0);
        });
  }

  private void person() {
    promise(2);
    edge("A new PERSON: the number.", "the first is number 0",
        broken("int add(", "return people - 1", "return people"), () -> due(x.person(0), 0));
    edge("BEYOND.", "kind 0 and kind 6 are kinds", broken("class", "KINDS = 7", "KINDS = 6"), () -> {
      due(x.person(0), 0);
      due(x.person(6), 1);
      due(x.of(0, 0), 0);
      due(x.of(1, 0), 6);
    });
    edge("BEYOND.", "kind 7 is too large", broken("public int person", "KINDS - 1", "KINDS"), () -> {
      refused(BEYOND, s -> s.person(7), s -> s.person(MAX));
      due(x.count(1), 0);
    });
    edge("BEYOND.", "kind -1 is too small",
        broken("public int person", "!isWithin(kind, KINDS - 1)", "kind >= KINDS"), () -> {
          refused(BEYOND, s -> s.person(-1), s -> s.person(MIN));
          due(x.count(1), 0);
        });
    edge("FULL.", "the 9th", broken("public int person", "land.isFull()", "land.people > MOST_PEOPLE"), () -> {
      crowd(8);
      refused(FULL, s -> s.person(0), s -> s.person(6));
      due(x.count(1), 8);
    });
    edge("FULL.", "room again behind undo()",
        broken("void become(", "people = other.people", "people = Math.max(people, other.people)"), () -> {
          crowd(7);
          x.image();
          crowd(1);
          x.undo();
          due(x.person(0), 7);
          x.image();
          refused(FULL, s -> s.person(0));
        });
    edge("BEYOND. FULL.", "a 9th of no kind is BEYOND, not FULL",
        broken("public int person", "!isWithin(kind, KINDS - 1)",
            "!isWithin(kind, KINDS - 1) && !land.isFull()"), () -> {
          crowd(8);
          refused(BEYOND, s -> s.person(7), s -> s.person(-1));
        });
  }

  private void of() {
    promise(3);
    edge("4 MATE (-1)", "number 0 as a MATE isn't none",
        broken("public int of", "land.partner[person]", "Math.max(land.partner[person], 0)"), () -> {
          crowd(3);
          x.share(0, 2);
          due(x.of(2, 4), 0);
          due(x.of(1, 4), -1);
        });
    edge("5 CLAIM now (0 when the day is over)", "at 16 0, at 15 not yet",
        broken("public int of", "land.hour < DAY ?", "land.hour <= DAY ?"), () -> {
          people(OLD);
          suns(5);
          x.at(15);
          due(x.of(0, 5), 15);
          x.at(16);
          due(x.of(0, 5), 0);
        });
    edge("6 1 if one HAS a shadow now, else 0 (likewise)", "at 16 0, at 15 not yet",
        broken("public int of", "bit(land.havers(), person)",
            "land.hour == DAY ? 1 : bit(land.havers(), person)"), () -> {
          crowd(1);
          x.at(15);
          due(x.of(0, 6), 1);
          x.at(16);
          due(x.of(0, 6), 0);
        });
    edge("6 1 if one HAS a shadow now, else 0", "of the last number, too",
        broken("public int of", "bit(land.havers(), person)", "bit(land.havers() & 127, person)"), () -> {
          crowd(8);
          due(x.of(7, 6), 1);
          x.light(0);
          due(x.of(7, 6), 0);
        });
    edge("BEYOND.", "no such PERSON: the number of PEOPLE",
        broken("public int of", "!land.isPerson(person)", "person < 0 || person > land.people"), () -> {
          crowd(2);
          refused(BEYOND, s -> s.of(2, 0), s -> s.of(8, 0), s -> s.of(MAX, 4));
        });
    edge("BEYOND.", "no such PERSON: -1",
        broken("public int of", "!land.isPerson(person)", "person >= land.people"), () -> {
          crowd(2);
          refused(BEYOND, s -> s.of(-1, 0), s -> s.of(MIN, 6));
        });
    edge("BEYOND.", "what -1 and 7", broken("public int of", "default:", "case 7: return 0;\n      default:"), () -> {
      crowd(1);
      refused(BEYOND, s -> s.of(0, 7), s -> s.of(0, -1), s -> s.of(0, MIN), s -> s.of(0, MAX));
    });
  }

  private void change() {
    promise(4);
    edge("KIND (what 0)", "0 and 6, not -1 and 7", broken("public int change", "KINDS - 1", "KINDS"), () -> {
      crowd(1);
      due(x.change(0, 0, 6), 0);
      refused(BEYOND, s -> s.change(0, 0, 7), s -> s.change(0, 0, -1));
      due(x.change(0, 0, 0), 6);
    });
    edge("SUN (1)", "0 and 99, not -1 and 100", broken("public int change", "MOST_SUN)", "MOST_SUN + 1)"), () -> {
      crowd(1);
      due(x.change(0, 1, 99), 0);
      refused(BEYOND, s -> s.change(0, 1, 100), s -> s.change(0, 1, -1));
      due(x.change(0, 1, 0), 99);
    });
    edge("STRENGTH (2)", "0 and 9, not -1 and 10",
        broken("public int change", "MOST_STRENGTH)", "MOST_STRENGTH + 1)"), () -> {
          crowd(1);
          due(x.change(0, 2, 9), 3);
          refused(BEYOND, s -> s.change(0, 2, 10), s -> s.change(0, 2, -1));
          due(x.change(0, 2, 0), 9);
        });
    edge("NEEDS (3: 0 to 65535)", "0 and 65535 are sets",
        broken("public int change", "person, v, ALL_HOURS", "person, v, ALL_HOURS >> 1"), () -> {
          crowd(1);
          due(x.change(0, 3, 65535), 0);
          due(x.change(0, 3, 0), 65535);
          due(x.of(0, 3), 0);
        });
    edge("NEEDS (3: 0 to 65535)", "-1 and 65536 are none",
        broken("public int change", "person, v, ALL_HOURS", "person, v, ALL_HOURS + 1"), () -> {
          crowd(1);
          refused(BEYOND, s -> s.change(0, 3, 65536), s -> s.change(0, 3, -1), s -> s.change(0, 3, MAX),
              s -> s.change(0, 3, MIN));
          due(x.of(0, 3), 0);
        });
    edge("of a PERSON becomes v: what it was.", "the same again",
        broken("int replace(", "return was", "return was == v ? -1 : was"), () -> {
          crowd(1);
          due(x.change(0, 1, 0), 0);
          due(x.change(0, 2, 3), 3);
        });
    edge("BEYOND.", "no such PERSON",
        broken("public int change", "!land.isPerson(person)", "person < 0 || person > land.people"), () -> {
          crowd(2);
          refused(BEYOND, s -> s.change(2, 1, 5), s -> s.change(-1, 1, 5), s -> s.change(8, 1, 5),
              s -> s.change(MIN, 1, 5), s -> s.change(MAX, 1, 5));
        });
    edge("BEYOND.", "what -1 and 4",
        broken("public int change", "default:", "case 4: return -1;\n      default:"), () -> {
          crowd(1);
          refused(BEYOND, s -> s.change(0, 4, 0), s -> s.change(0, -1, 0), s -> s.change(0, MIN, 0),
              s -> s.change(0, MAX, 0));
        });
  }

  private void share() {
    promise(5);
    edge("1, 0 if they were", "0 either way round",
        broken("public int share", "land.partner[a] == b", "land.partner[a] == b && a < b"), () -> {
          crowd(2);
          due(x.share(1, 0), 1);
          due(x.share(1, 0), 0);
          due(x.share(0, 1), 0);
          due(x.of(0, 4), 1);
        });
    edge("(MATES that they had have none then)", "the first one's", broken("void join(", "separate(a);", ""), () -> {
      crowd(3);
      x.share(0, 1);
      due(x.share(0, 2), 1);
      due(x.of(1, 4), -1);
      due(x.of(0, 4), 2);
    });
    edge("(MATES that they had have none then)", "the other one's", broken("void join(", "separate(b);", ""), () -> {
      crowd(3);
      x.share(0, 1);
      due(x.share(2, 1), 1);
      due(x.of(0, 4), -1);
      due(x.of(1, 4), 2);
    });
    edge("(MATES that they had have none then)", "both ones'",
        broken("void join(", "separate(a);", "if (partner[b] == NOBODY) separate(a);"), () -> {
          crowd(4);
          x.share(0, 1);
          x.share(2, 3);
          due(x.share(1, 2), 1);
          due(x.of(0, 4), -1);
          due(x.of(3, 4), -1);
          due(x.count(2), 2);
          due(x.share(0, 3), 1);
          due(x.count(2), 4);
        });
    edge("BEYOND: also one and the same.", "one and the same", broken("boolean areTwo(", " && a != b", ""), () -> {
      crowd(2);
      refused(BEYOND, s -> s.share(0, 0), s -> s.share(1, 1));
      due(x.of(0, 4), -1);
    });
    edge("BEYOND: also one and the same.", "no such PEOPLE",
        broken("boolean areTwo(", "isPerson(b)", "b <= people"), () -> {
          crowd(2);
          refused(BEYOND, s -> s.share(0, 2), s -> s.share(2, 0), s -> s.share(-1, 0), s -> s.share(0, -1),
              s -> s.share(MIN, MAX));
          due(x.count(2), 0);
        });
  }

  private void part() {
    promise(6);
    edge("who the MATE was", "number 0 as well",
        broken("public int part", "return other", "return Math.max(other, 1)"), () -> {
          crowd(2);
          x.share(0, 1);
          due(x.part(1), 0);
          due(x.count(2), 0);
        });
    edge("BEYOND. NONE.", "no such PERSON",
        broken("public int part", "!land.isPerson(person)", "person < 0 || person > land.people"), () -> {
          crowd(2);
          refused(BEYOND, s -> s.part(2), s -> s.part(-1), s -> s.part(8), s -> s.part(MIN), s -> s.part(MAX));
        });
    edge("NONE.", "no MATE, and none any more, on both sides",
        broken("public int part", "other == NOBODY", "other == NOBODY && person > 0"), () -> {
          crowd(3);
          refused(NONE, s -> s.part(2), s -> s.part(0));
          x.share(0, 1);
          x.part(1);
          refused(NONE, s -> s.part(0), s -> s.part(1));
        });
  }

  private void light() {
    promise(7);
    edge("LIGHT becomes a set of HOURS (0 to 65535)", "0 and 65535 are sets",
        broken("public int light", "ALL_HOURS", "ALL_HOURS - 1"), () -> {
          due(x.light(0), 65535);
          due(x.light(65535), 0);
          due(x.now(3), 65535);
        });
    edge("BEYOND.", "65536 is too large", broken("public int light", "ALL_HOURS", "ALL_HOURS + 1"), () -> {
      refused(BEYOND, s -> s.light(65536), s -> s.light(MAX));
      due(x.now(3), 65535);
    });
    edge("BEYOND.", "-1 is too small",
        broken("public int light", "!isWithin(set, ALL_HOURS)", "set > ALL_HOURS"), () -> {
          x.light(5);
          refused(BEYOND, s -> s.light(-1), s -> s.light(MIN));
          due(x.now(3), 5);
        });
  }

  private void claim() {
    promise(8);
    edge("at an HOUR (0 to 15)", "0 and 15", broken("public int claim", "DAY - 1", "DAY - 2"), () -> {
      people(OLD);
      due(x.claim(0, 0), 10);
      due(x.claim(0, 15), 10);
    });
    edge("SUN being as now", "whatever goes by until then, and when the day is over",
        broken("public int claim", "return land.claimOf(person, hour)",
            "return land.claimOf(person, hour) - Math.min(land.sun[person], Math.abs(hour - land.hour))"), () -> {
          crowd(1);
          suns(9);
          due(x.claim(0, 15), 9);
          x.at(16);
          due(x.claim(0, 0), 9);
        });
    edge("BEYOND.", "HOUR 16 is too large", broken("public int claim", "DAY - 1", "DAY"), () -> {
      people(OLD);
      refused(BEYOND, s -> s.claim(0, 16), s -> s.claim(0, MAX));
    });
    edge("BEYOND.", "HOUR -1 is too small",
        broken("public int claim", "!isWithin(hour, DAY - 1)", "hour >= DAY"), () -> {
          people(OLD);
          refused(BEYOND, s -> s.claim(0, -1), s -> s.claim(0, MIN));
        });
    edge("BEYOND.", "no such PERSON", broken("public int claim", "!land.isPerson(person) || ", ""), () -> {
      people(OLD);
      refused(BEYOND, s -> s.claim(1, 0), s -> s.claim(-1, 0), s -> s.claim(8, 0), s -> s.claim(MAX, 0),
          s -> s.claim(MIN, 0));
    });
  }
}
