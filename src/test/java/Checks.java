/** Counts the checks of one test and ends it with exit code 1 if one failed. */
final class Checks {
  private int asked = 0;
  private int wrong = 0;

  void due(String call, long got, long want) {
    asked++;
    if (got != want) {
      wrong++;
      System.out.println(call + " answered " + got + ", due is " + want);
    }
  }

  void holds(String what, boolean isSo) {
    asked++;
    if (!isSo) {
      wrong++;
      System.out.println("not so: " + what);
    }
  }

  int asked() {
    return asked;
  }

  boolean isClean() {
    return wrong == 0;
  }

  void end(String name) {
    System.out.println(name + ": " + asked + " checks, " + wrong + " wrong");
    if (wrong != 0 || asked == 0) {
      System.exit(1);
    }
  }
}
