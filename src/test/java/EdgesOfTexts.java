/** Promises 34 to 36, and what the Terms say of texts. */
final class EdgesOfTexts extends Edges {
  EdgesOfTexts() {
    feeding();
    fullTapeAndWipe();
    promise(0);
    tape();
    tokens();
    numbersAndSigns();
    items();
    shares();
    faults();
    text();
  }

  private void feeding() {
    promise(34);
    edge("(n 1 to 4)", "1 and 4", broken("class Tape", "MOST_AT_ONCE = 4", "MOST_AT_ONCE = 3"), () -> {
      due(x.feed(0, 1), 1);
      due(x.feed(0, 4), 5);
    });
    edge("BEYOND: n.", "0 and -1 are too small", broken("public int feed", "n < 1", "n < 0"), () -> {
      refused(BEYOND, s -> s.feed(0, 0), s -> s.feed(0, -1), s -> s.feed(0, MIN));
      due(x.count(5), 0);
    });
    edge("BEYOND: n.", "5 is too large",
        broken("public int feed", "n > Tape.MOST_AT_ONCE", "n > Tape.MOST_AT_ONCE + 1"), () -> {
          refused(BEYOND, s -> s.feed(0, 5), s -> s.feed(0, MAX));
          due(x.count(5), 0);
        });
    edge("the n lowest bytes of a number behind it, the highest of these first", "of 4 bytes, of a number below 0",
        broken("public int feed", "bytes >>> (8 * i)", "bytes >>> (8 * (n - 1 - i))"), () -> {
          due(x.feed('o' << 24 | 'l' << 16 | 'd' << 8 | ';', 4), 4);
          due(x.feed(255 << 24 | 'o' << 16 | 'l' << 8 | 'd', 3), 7);
          due(x.text(), 2);
        });
    edge("the n lowest bytes of a number behind it", "higher ones don't count",
        broken("void append(", "b & 255", "b"), () -> {
          due(x.feed(-256 | 'o', 1), 1);
          due(x.feed('x' << 24 | 'y' << 16 | 'l' << 8 | 'd', 2), 3);
          due(x.text(), 1);
        });
  }

  private void fullTapeAndWipe() {
    edge("FULL.", "120 bytes are not too many, 121 are",
        broken("public int feed", "n > Tape.MOST_BYTES - tape.length", "n > Tape.MOST_BYTES - tape.length + 1"), () -> {
          for (int i = 1; i <= 29; i++) {
            due(x.feed(0, 4), 4 * i);
          }
          due(x.feed(0, 2), 118);
          refused(FULL, s -> s.feed(0, 3), s -> s.feed(0, 4));
          due(x.count(5), 118);
          due(x.feed(0, 2), 120);
          refused(FULL, s -> s.feed(0, 1));
          due(x.count(5), 120);
        });
    edge("FULL.", "4 bytes may fill it",
        broken("public int feed", "n > Tape.MOST_BYTES - tape.length", "n >= Tape.MOST_BYTES - tape.length"), () -> {
          for (int i = 1; i <= 30; i++) {
            due(x.feed(0, 4), 4 * i);
          }
        });
    edge("BEYOND: n. FULL.", "no n at all is BEYOND on a full tape, too",
        broken("public int feed", "n > Tape.MOST_AT_ONCE", "n > Tape.MOST_AT_ONCE && tape.length < 120"), () -> {
          for (int i = 1; i <= 30; i++) {
            x.feed(0, 4);
          }
          refused(BEYOND, s -> s.feed(0, 5), s -> s.feed(0, 0), s -> s.feed(0, -1));
        });
    promise(35);
    edge("THE TAPE is empty: how many it had.", "an empty one, a full one",
        broken("public int wipe", "tape.length = 0;", "tape.length = had / 2;"), () -> {
          due(x.wipe(), 0);
          for (int i = 1; i <= 30; i++) {
            x.feed(0, 4);
          }
          due(x.wipe(), 120);
          due(x.count(5), 0);
          due(x.wipe(), 0);
          due(x.feed(0, 1), 1);
        });
  }

  private void tape() {
    edge("THE TAPE (bytes, at most 120)", "a TEXT of 120 bytes",
        broken("class Reader", "MOST_TOKENS = Tape.MOST_BYTES + 1", "MOST_TOKENS = 20"), () -> {
          due(read("light 7;".repeat(14) + "light 08"), 15);
          due(x.now(3), 8);
        });
    edge("THE TAPE (bytes, at most 120)", "120 bytes that end too early, 120 that are a TOKEN each",
        broken("class Tape", "MOST_BYTES = 120", "MOST_BYTES = 119"), () -> {
          due(read("light 7;".repeat(15)), -121);
          fault(";".repeat(120), 0);
          fault("hour 1" + ";".repeat(114), 7);
          due(x.now(0), 0);
        });
  }

  private void tokens() {
    edge("TOKENS, each as long as can be", "a WORD goes on to its last letter",
        broken("boolean isWord(", "ends[next] - places[next] != word.length()",
            "ends[next] - places[next] < word.length()"), () -> {
          fault("oldold", 0);
          fault("olds", 0);
          fault("old sunny 5", 4);
        });
    edge("TOKENS, each as long as can be", "a NUMBER goes on to its last digit",
        broken("void lengthenToken(", "10 * values[last]", "values[last]"), () -> {
          due(read("hour 12"), 1);
          due(x.now(0), 12);
        });
    edge("WORDS (letters a to z)", "a and z are letters",
        broken("int typeOf(", "b >= 'a' && b <= 'z'", "b > 'a' && b < 'z'"), () -> {
          fault("oldz", 0);
          fault("olda", 0);
          due(read("share 0 1"), -7);
        });
    edge("WORDS (letters a to z)", "the bytes next to a and z are none, nor A, Z and 255",
        broken("int typeOf(", "b >= 'a' && b <= 'z'", "b >= 'a' - 1 && b <= 'z' + 1"), () -> {
          fault("old`", 3);
          fault("old{", 3);
          fault("oldA", 3);
          fault("oldZ", 3);
          fault("old\u00ff", 3);
          fault("OLD", 0);
        });
  }

  private void numbersAndSigns() {
    edge("NUMBERS (digits,", "0 and 9 are digits",
        broken("int typeOf(", "b >= '0' && b <= '9'", "b > '0' && b < '9'"), () -> {
          due(read("light 90"), 1);
          due(x.now(3), 90);
          due(read("light 9"), 1);
          due(x.now(3), 9);
          due(read("hour 0"), 1);
        });
    edge("NUMBERS (digits,", "the bytes next to 0 and 9 are none",
        broken("int typeOf(", "b >= '0' && b <= '9'", "b >= '0' - 1 && b <= '9' + 1"), () -> {
          fault("light 4/", 7);
          fault("light 4:", 7);
          fault("light /", 6);
        });
    edge("99999 at most", "a longer one doesn't wrap around",
        broken("void lengthenToken(", "Math.min(10 * values[last] + tape.byteAt(place) - '0', MOST_NUMBER + 1)",
            "10 * values[last] + tape.byteAt(place) - '0'"), () -> {
          fault("light 99999", 6);
          fault("light 100000", 6);
          fault("light 4294967296", 6);
          fault("hour 4294967301", 5);
          fault("hour 18446744073709551617", 5);
          fault("light 999999999999999999999999999999", 6);
          due(x.now(3), 65535);
          due(x.now(0), 0);
        });
    edge("SIGN ;", "the bytes next to it are none",
        broken("int typeOf(", "b == ';' ? SIGN", "b >= ';' - 1 && b <= ';' + 1 ? SIGN"), () -> {
          due(read("hour 1;hour 2"), 2);
          fault("hour 1:hour 2", 6);
          fault("hour 1<hour 2", 6);
        });
    edge("blanks may stand between", "none, many, ahead and behind",
        broken("int typeOf(", "return BLANK", "return OTHER"), () -> {
          due(read("   old   sun   7   ;   hour   3   "), 2);
          due(x.of(0, 1), 7);
          due(read("old sun8strength2needs3;hour4"), 2);
          due(x.of(1, 1) * 100 + x.of(1, 2) * 10 + x.of(1, 3), 823);
          due(x.now(0), 4);
        });
    edge("blanks may stand between", "the bytes next to a blank are none, nor 9, 10 and 0",
        broken("int typeOf(", "b == ' '", "b <= '!'"), () -> {
          fault("old!", 3);
          fault("old\u001f", 3);
          fault("old\t;old", 3);
          fault("old\n;old", 3);
          fault("old\0", 3);
        });
  }

  private void items() {
    edge("ITEM: person, strong, old, lender, beggar, twin or duellist", "each KIND has its WORD, no other has one",
        broken("boolean readItem()", "kindOfWord() >= 0", "kindOfWord() > 0"), () -> {
          due(read("person;strong;old;lender;beggar;twin;duellist"), 7);
          int[] kinds = {PERSON, STRONG, OLD, LENDER, BEGGAR, TWIN, DUELLIST};
          for (int p = 0; p < 7; p++) {
            due(x.of(p, 0), kinds[p]);
          }
          fault("parson", 0);
          fault("duelist", 0);
        });
    edge("TEXT: ITEM { ; ITEM }.", "one ITEM, as many as can be",
        broken("int read(Land", "items < MOST_TOKENS", "items < 2"), () -> {
          due(read("old"), 1);
          due(read("hour 1;hour 2;hour 3;hour 4"), 4);
          due(x.now(0), 4);
        });
    edge("TEXT: ITEM { ; ITEM }.", "no ITEM ahead of, between or behind the SIGNS",
        broken("int read(Land", "step();",
            "step(); if (isNext(END)) {\n          land.become(draft);\n          return items;\n        }"), () -> {
          fault(";old", 0);
          fault("old;;old", 4);
          fault("old;", 4);
          due(x.count(1), 0);
        });
    edge("perhaps sun and a NUMBER (0 to 99)", "0, 99, 100, none",
        broken("boolean readPerson()", "MOST_SUN)", "MOST_SUN + 1)"), () -> {
          due(read("old sun 0;old sun 99;old"), 3);
          due(x.of(0, 1), 0);
          due(x.of(1, 1), 99);
          due(x.of(2, 1), 0);
          fault("old sun 100", 8);
        });
    edge("perhaps strength and a NUMBER (0 to 9)", "0, 9, 10, none",
        broken("boolean readPerson()", "MOST_STRENGTH)", "MOST_STRENGTH + 1)"), () -> {
          due(read("old strength 0;old strength 9;old"), 3);
          due(x.of(0, 2), 0);
          due(x.of(1, 2), 9);
          due(x.of(2, 2), 3);
          fault("old strength 10", 13);
        });
    edge("perhaps needs and a NUMBER (0 to 65535)", "0, 65535, 65536, none",
        broken("boolean readPerson()", "person, ALL_HOURS)", "person, ALL_HOURS + 1)"), () -> {
          due(read("old needs 0;old needs 65535;old"), 3);
          due(x.of(0, 3), 0);
          due(x.of(1, 3), 65535);
          due(x.of(2, 3), 0);
          fault("old needs 65536", 10);
        });
    edge("perhaps sun and a NUMBER (0 to 99), perhaps strength and a NUMBER (0 to 9), perhaps needs",
        "in this order, each but once",
        broken("boolean readPerson()", "readTrait(\"sun\", draft.sun, person, MOST_SUN)",
            "readTrait(\"needs\", draft.needs, person, ALL_HOURS) && readTrait(\"sun\", draft.sun, "
                + "person, MOST_SUN)"), () -> {
          due(read("old sun 1 strength 2 needs 3;old sun 1 needs 3;old strength 2 needs 3"), 3);
          fault("old strength 2 sun 1", 15);
          fault("old needs 3 sun 1", 12);
          fault("old sun 1 sun 1", 10);
        });
    edge("light, a NUMBER (0 to 65535)", "0, 65535, 65536",
        broken("boolean readLight()", "ALL_HOURS", "ALL_HOURS + 1"), () -> {
          due(read("light 0"), 1);
          due(x.now(3), 0);
          due(read("light 65535"), 1);
          due(x.now(3), 65535);
          fault("light 65536", 6);
        });
    edge("hour, a NUMBER (0 to 16)", "0, 16, 17", broken("boolean readHour()", "DAY)", "DAY + 1)"), () -> {
      due(read("hour 16"), 1);
      due(x.now(0), 16);
      due(read("hour 0"), 1);
      due(x.now(0), 0);
      fault("hour 17", 5);
    });
  }

  private void shares() {
    edge("share, two NUMBERS (PEOPLE there by then, unlike)", "one who was made just ahead, none who is made behind",
        broken("boolean readShare()", "draft.people - 1", "draft.people"), () -> {
          fault("share 0 1;old;old", 6);
          fault("old;share 0 1;old", 12);
          due(x.count(1), 0);
          due(read("old;old;share 0 1"), 3);
          due(x.of(1, 4), 0);
          fault("share 0 2", 8);
          fault("share 2 0", 6);
        });
    edge("share, two NUMBERS (PEOPLE there by then, unlike)", "like ones: the second",
        broken("boolean readShare()", "b == a || ", ""), () -> {
          crowd(2);
          fault("share 1 1", 8);
          fault("share 0 00", 8);
        });
    edge("they are MATES (as share() has it)", "MATES that they had have none then, MATES stay so",
        broken("void join(", "separate(b);", ""), () -> {
          crowd(3);
          due(read("share 0 1;share 2 1;share 1 2"), 3);
          due(x.of(0, 4), -1);
          due(x.of(1, 4), 2);
          due(x.count(2), 2);
        });
  }

  private void faults() {
    edge("FAULT: the place (from 0) of the first byte", "at the first byte",
        broken("int read(Land", "return -1 - places[next]", "return -places[next]"), () -> {
          fault("x", 0);
          fault("7", 0);
          fault("  7", 2);
        });
    edge("of the first TOKEN that can't stand there", "a TOKEN behind a whole ITEM",
        broken("int read(Land", "break;", "return items;"), () -> {
          fault("hour 1 hour 2", 7);
          fault("hour 1 2", 7);
          fault("old 5", 4);
        });
    edge("(a NUMBER that isn't as told", "no NUMBER where one is due",
        broken("boolean takeNumber(", "!isNext(NUMBER) || ", ""), () -> {
          fault("hour x", 5);
          fault("hour ;", 5);
          fault("light old", 6);
          due(x.now(0), 0);
        });
    edge("another WORD", "one that begins no ITEM",
        broken("boolean readItem()", "return isWord(\"hour\") && readHour()", "return readHour()"), () -> {
          fault("sun 5", 0);
          fault("hours 5", 0);
          fault("old;moon 5", 4);
        });
    edge("another WORD", "one that is unlike in its first letter, or its last",
        broken("boolean isWord(", "int i = 0;", "int i = 1;"), () -> {
          fault("mld", 0);
          fault("ole", 0);
          fault("old run 5", 4);
          fault("old sum 5", 4);
          fault("right 5", 0);
        });
    edge("or how many bytes there are if it ends too early", "behind each WORD that a NUMBER must follow",
        broken("boolean readLight()", "return false;", "return true;"), () -> {
          crowd(1);
          fault("light", 5);
          fault("hour", 4);
          fault("share", 5);
          fault("old sun", 7);
          fault("old strength", 12);
          fault("old needs", 9);
          due(x.count(1), 1);
        });
    edge("a byte that begins no TOKEN", "its own place", broken("int typeOf(", "SIGN : OTHER", "SIGN : BLANK"), () -> {
      fault("#", 0);
      fault("old#", 3);
      fault("old ;# old", 5);
      fault("hour 1#", 6);
      fault("\u0080", 0);
    });
    edge("the WORD of a 9th one: its own", "the WORD, not what stands behind it",
        broken("boolean readPerson()", "if (draft.isFull()) {\n        return false;",
            "if (draft.isFull()) {\n        step();\n        return false;"), () -> {
          crowd(7);
          fault("old;twin", 4);
          fault("old; twin sun 100", 5);
          due(x.count(1), 7);
          due(read("old"), 1);
          fault("person", 0);
          due(read("hour 2"), 1);
        });
    edge("or how many bytes there are if it ends too early", "no bytes at all",
        broken("void split()", "beginToken(END, tape.length)", "beginToken(END, Math.max(1, tape.length))"), () -> {
          due(x.text(), -1);
          due(x.status(-1), 0);
        });
    edge("or how many bytes there are if it ends too early", "blanks alone, blanks behind",
        broken("void split()", "beginToken(END, tape.length)",
            "beginToken(END, tokens == 0 ? 0 : ends[tokens - 1])"), () -> {
          fault("   ", 3);
          fault("hour", 4);
          fault("hour  ", 6);
          fault("share 0", 6);
          crowd(1);
          fault("share 0", 7);
          fault("share 0 ", 8);
          fault("old sun", 7);
          fault("old; ", 5);
        });
  }

  private void text() {
    promise(36);
    edge("THE TAPE is a TEXT, and empty then", "empty then",
        broken("public int text", "tape.length = 0;", "tape.length = answer < 0 ? 0 : tape.length;"), () -> {
          due(read("hour 3"), 1);
          due(x.count(5), 0);
          due(read("hour 4"), 1);
        });
    edge("all that it tells is so, item by item", "the last of several counts",
        broken("boolean readHour()", "draft.hour = hour", "draft.hour = Math.max(hour, draft.hour)"), () -> {
          due(read("hour 9;light 1;hour 3;light 2"), 4);
          due(x.now(0), 3);
          due(x.now(3), 2);
        });
    edge("With a FAULT: -1 less the FAULT", "from -1 to -121",
        broken("int read(Land", "return -1 - places[next]", "return -1 - Math.min(places[next], 119)"), () -> {
          due(x.text(), -1);
          due(read(" ".repeat(119)), -120);
          due(read(" ".repeat(120)), -121);
        });
    edge("(nothing changes but that THE TAPE is empty", "nothing that stands ahead of the FAULT is so",
        broken("int read(Land", "return -1 - places[next]",
            "land.become(draft);\n      return -1 - places[next]"), () -> {
          crowd(2);
          fault("hour 5;light 6;share 0 1;old sun 9;hour 17", 40);
          due(x.now(0), 0);
          due(x.now(3), 65535);
          due(x.of(0, 4), -1);
          due(x.count(1), 2);
        });
    edge("but that THE TAPE is empty", "empty then, with a FAULT too",
        broken("public int text", "tape.length = 0;", "tape.length = answer < 0 ? tape.length : 0;"), () -> {
          fault("hour 17", 5);
          due(x.count(5), 0);
          due(read("hour 1"), 1);
        });
    edge("no finding)", "status() counts none",
        broken("public int text", "return answer;",
            "if (answer < 0) {\n      findings[NONE]++;\n    }\n    return answer;"), () -> {
          fault("hour 17", 5);
          fault("", 0);
          due(x.status(-1), 0);
        });
  }
}
