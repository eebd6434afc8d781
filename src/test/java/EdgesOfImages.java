/** Promises 44 to 48: images, counts, status. */
final class EdgesOfImages extends Edges {
  EdgesOfImages() {
    image();
    imageOfAll();
    undo();
    tear();
    count();
    status();
  }

  private void image() {
    promise(44);
    edge("All but THE TAPE and SHEETS is kept", "THE TAPE stays as it is",
        broken("public int undo", "land.become(kept);", "land.become(kept);\n    tape.length = 0;"), () -> {
          feed("hour");
          due(x.image(), 1);
          feed(" 3");
          x.undo();
          due(x.count(5), 6);
          due(x.text(), 1);
        });
    edge("All but THE TAPE and SHEETS is kept", "SHEETS stay as they are",
        broken("public int undo", "land.become(kept);", "land.become(kept);\n    sheets[0].renew(0, 0);"), () -> {
          crowd(2);
          x.sheet(1, 8, 1);
          x.image();
          row(0, 8, 3, 4);
          x.sheet(1, 0, 0);
          x.undo();
          due(x.load(0), 2);
          due(x.of(1, 1), 4);
          refused(MISSING, s -> s.load(1));
        });
    edge("All but THE TAPE and SHEETS is kept", "an empty land",
        broken("void become(", "people = other.people", "people = other.people == 0 ? people : other.people"), () -> {
          x.image();
          crowd(8);
          x.hold(0, 0);
          x.undo();
          due(x.count(1), 0);
          due(x.count(7), 0);
          refused(BEYOND, s -> s.of(0, 0));
        });
  }

  private void imageOfAll() {
    edge("All but THE TAPE and SHEETS is kept", "the last PERSON, the last SPOT, MET, MISSED, z",
        broken("void become(", "wereMissed = other.wereMissed;", ""), () -> {
          crowd(8);
          x.share(6, 7);
          x.change(7, 1, 98);
          x.change(7, 2, 9);
          x.change(7, 3, 65535);
          x.change(6, 3, 65535);
          x.hold(9, 7);
          x.seed(MIN);
          x.light(1);
          x.go(1);
          x.image();
          x.part(7);
          x.change(7, 0, 1);
          x.change(7, 1, 0);
          x.change(7, 2, 0);
          x.change(7, 3, 0);
          x.hold(9, -1);
          x.light(3);
          x.share(6, 7);
          x.change(6, 1, 0);
          x.change(7, 0, 1);
          x.change(7, 1, 50);
          x.go(1);
          x.days(1);
          due(x.undo(), 1);
          int[] was = {0, 97, 9, 65535, 6};
          for (int what = 0; what <= 4; what++) {
            due(x.of(7, what), was[what]);
          }
          due(x.as(9, 0), 7);
          due(x.count(6), MIN);
          due(x.now(1), 1);
          due(x.now(2), 1);
          due(x.now(3), 1);
        });
    edge("is kept: 1.", "the first, and over one that was kept",
        broken("public int image", "isKept = true;\n    return 1;",
            "int answer = isKept ? 0 : 1;\n    isKept = true;\n    return answer;"), () -> {
          due(x.image(), 1);
          due(x.image(), 1);
        });
  }

  private void undo() {
    promise(45);
    edge("what was kept latest (which stays)", "any number of times",
        broken("public int undo", "return land.hour;", "isKept = false;\n    return land.hour;"), () -> {
          x.at(4);
          x.image();
          for (int i = 0; i < 3; i++) {
            x.at(16);
            due(x.undo(), 4);
          }
        });
    edge("what was kept latest (which stays)", "what is done behind undo() doesn't change it",
        broken("void become(", "System.arraycopy(other.sun, 0, sun, 0, MOST_PEOPLE);",
            "System.arraycopy(other.sun, 0, sun, 0, 0);"), () -> {
          crowd(1);
          suns(5);
          x.image();
          x.undo();
          suns(6);
          x.undo();
          due(x.of(0, 1), 5);
        });
    edge("what was kept latest (which stays)", "not an earlier one",
        broken("public int image", "kept.become(land);", "if (!isKept) {\n      kept.become(land);\n    }"), () -> {
          x.image();
          x.at(7);
          x.image();
          x.at(9);
          due(x.undo(), 7);
          due(x.undo(), 7);
        });
    edge("HOUR.", "0 and 16",
        broken("public int undo", "return land.hour", "return Math.max(1, Math.min(land.hour, 15))"), () -> {
          x.image();
          x.at(5);
          due(x.undo(), 0);
          x.at(16);
          x.image();
          due(x.undo(), 16);
        });
    edge("NONE: nothing is kept.", "nothing yet, nothing any more",
        broken("public int undo", "if (!isKept)", "if (!isKept && land.people == 0)"), () -> {
          refused(NONE, s -> s.undo());
          crowd(1);
          refused(NONE, s -> s.undo());
          x.image();
          x.tear();
          refused(NONE, s -> s.undo());
          due(x.count(1), 1);
        });
  }

  private void tear() {
    promise(46);
    edge("1 if something was, else 0", "nothing yet, one, two, nothing any more",
        broken("public int tear", "isKept = false;", ""), () -> {
          due(x.tear(), 0);
          x.image();
          due(x.tear(), 1);
          due(x.tear(), 0);
          x.image();
          x.image();
          due(x.tear(), 1);
          due(x.tear(), 0);
        });
    edge("Nothing is kept", "the land stays as it is",
        broken("public int tear", "return was", "land.become(kept);\n    return was"), () -> {
          x.image();
          x.at(5);
          x.tear();
          due(x.now(0), 5);
        });
  }

  private void count() {
    promise(47);
    edge("0 HOUR", "16", broken("public int count", "return land.hour;", "return land.hour & 15;"), () -> {
      x.at(16);
      due(x.count(0), 16);
    });
    edge("1 PEOPLE", "none, 8", broken("public int count", "return land.people;", "return land.people & 7;"), () -> {
      due(x.count(1), 0);
      crowd(8);
      due(x.count(1), 8);
    });
    edge("2 how many have a MATE", "none, number 0 and its MATE, all",
        broken("int countMated()", "partner[p] == NOBODY ? 0", "partner[p] <= 0 ? 0"), () -> {
          crowd(8);
          due(x.count(2), 0);
          x.share(0, 7);
          due(x.count(2), 2);
          x.share(1, 2);
          x.share(3, 4);
          x.share(5, 6);
          due(x.count(2), 8);
        });
    edge("4 SUN of all together", "none, 8 times 99", broken("int sunOfAll()", "p < people", "p < people - 1"), () -> {
      due(x.count(4), 0);
      crowd(8);
      due(x.count(4), 0);
      suns(99, 99, 99, 99, 99, 99, 99, 99);
      due(x.count(4), 792);
    });
    edge("5 bytes of THE TAPE", "none, 120",
        broken("public int count", "return tape.length;", "return Math.min(119, tape.length);"), () -> {
          due(x.count(5), 0);
          for (int i = 0; i < 30; i++) {
            x.feed(0, 4);
          }
          due(x.count(5), 120);
        });
    edge("7 SPOTS that hold something", "none, all, one PERSON in each",
        broken("int countHeld()", "person == NOBODY ? 0", "person <= 0 ? 0"), () -> {
          crowd(1);
          due(x.count(7), 0);
          for (int spot = 0; spot <= 9; spot++) {
            x.hold(spot, 0);
          }
          due(x.count(7), 10);
        });
    edge("BEYOND: another what.", "-1 and 8",
        broken("public int count", "default:", "case 8: return 0;\n      default:"),
        () -> refused(BEYOND, s -> s.count(8), s -> s.count(-1), s -> s.count(MIN), s -> s.count(MAX)));
  }

  private void status() {
    promise(48);
    edge("which -1: all, 0 to 6: BEYOND to SIZE.", "0 and 6, none yet",
        broken("public int status", "FINDINGS - 1", "FINDINGS - 2"), () -> {
          for (int which = -1; which <= 6; which++) {
            due(x.status(which), 0);
          }
          x.sheet(0, 8, -1);
          x.go(0);
          due(x.status(6), 1);
          due(x.status(0), 1);
          due(x.status(-1), 2);
        });
    edge("BEYOND (counted from then on): another one.", "-2 and 7",
        broken("public int status", "isWithin(which, FINDINGS - 1) ? findings[which] :",
            "isWithin(which, FINDINGS - 1) ? findings[which] : which == 7 ? 0 :"), () -> {
          due(x.status(7), BEYOND);
          due(x.status(-2), BEYOND);
          due(x.status(MIN), BEYOND);
          due(x.status(MAX), BEYOND);
        });
    edge("(counted from then on)", "the next status() counts it",
        broken("public int status", ": found(BEYOND)", ": LOW"), () -> {
          due(x.status(7), BEYOND);
          due(x.status(0), 1);
          due(x.status(-1), 1);
          due(x.status(-2), BEYOND);
          due(x.status(0), 2);
          due(x.status(-1), 2);
        });
    edge("(undo() takes none back)", "findings ahead of and behind image()",
        broken("public int undo", "land.become(kept);", "land.become(kept);\n    findings[0] = 0;"), () -> {
          x.person(-1);
          x.image();
          x.person(-1);
          x.go(0);
          x.undo();
          due(x.status(0), 3);
          due(x.status(-1), 3);
          x.tear();
          x.undo();
          due(x.status(3), 1);
          due(x.status(-1), 4);
        });
  }
}
