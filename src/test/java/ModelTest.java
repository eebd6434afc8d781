import java.lang.reflect.Method;
import java.nio.charset.StandardCharsets;
import java.util.ArrayList;
import java.util.List;
import java.util.Map;
import java.util.Random;
import java.util.TreeMap;

/** Long runs of drawn calls, answered by the program and by the model: all answers must be the same. */
public final class ModelTest {
  private static final int RUNS = 300;
  private static final int CALLS = 512;

  // What each argument is: p a person, the other letters as numberFor() tells.
  private static final Map<String, String> ARGUMENTS = new TreeMap<>();

  static {
    String all = "person k;of pw;change pcv;share pp;part p;light l;claim ph;go g;at t;now w;met p;cold p;shade p;all ;"
        + "tan p;strong p;kindFor p;cloud ;agree pp;changes pp;holder pph;gain pp;pairs ;mate p;ways ;broken ;fits s;"
        + "may sp;duel pp;lanterns nmo;days d;seed z;feed zf;wipe ;text ;hold ep;as ek;sheet sbi;write siy;copy sisii;"
        + "load s;judge s;image ;undo ;tear ;count x;status q";
    for (String call : all.split(";")) {
      String[] two = call.split(" ", 2);
      ARGUMENTS.put(two[0], two[1]);
    }
  }

  private static final Checks checks = new Checks();

  private final Random random;
  private final SharedShadow program = new SharedShadow();
  private final Model model = new Model();
  private final List<String> calls = new ArrayList<>();
  private int called = 0;

  private ModelTest(long seed) {
    random = new Random(seed);
  }

  public static void main(String[] args) throws Exception {
    checks.holds("the face has just the document's calls", faceIsDue());
    for (int run = 0; run < RUNS && checks.isClean(); run++) {
      new ModelTest(run).run();
    }
    checks.end("ModelTest");
  }

  private static boolean faceIsDue() {
    int own = 0;
    for (Method m : SharedShadow.class.getDeclaredMethods()) {
      if (java.lang.reflect.Modifier.isPublic(m.getModifiers())) {
        own++;
        if (!ARGUMENTS.containsKey(m.getName())) {
          return false;
        }
      }
    }
    return own == ARGUMENTS.size();
  }

  private void run() throws Exception {
    List<String> names = new ArrayList<>(ARGUMENTS.keySet());
    if (random.nextInt(4) > 0) {
      peopleTheLand();
    }
    while (called < CALLS && checks.isClean()) {
      switch (random.nextInt(12)) {
        case 0:
          tell(drawnText());
          break;
        case 1:
          tellWhatIsSeen();
          break;
        case 2:
          // Late hours keep the model's tries few; early ones must come too.
          call("at", random.nextInt(6) == 0 ? 0 : 6 + random.nextInt(10));
          break;
        default:
          callDrawn(names.get(random.nextInt(names.size())));
      }
    }
  }

  private void peopleTheLand() throws Exception {
    int people = random.nextInt(9);
    for (int p = 0; p < people; p++) {
      call("person", random.nextInt(7));
      call("change", p, 1, random.nextInt(3) == 0 ? random.nextInt(100) : random.nextInt(20));
      call("change", p, 2, random.nextInt(10));
      call("change", p, 3, random.nextInt(65536));
    }
    for (int i = 0; i < people / 2; i++) {
      call("share", random.nextInt(people), random.nextInt(people));
    }
    call("at", random.nextInt(17));
  }

  private void callDrawn(String name) throws Exception {
    // So that days, images and wipes don't drown all else.
    if ("days wipe undo text".contains(name) && random.nextInt(4) > 0) {
      return;
    }
    String letters = ARGUMENTS.get(name);
    int[] numbers = new int[letters.length()];
    for (int i = 0; i < numbers.length; i++) {
      numbers[i] = numberFor(letters.charAt(i));
    }
    call(name, numbers);
  }

  private int numberFor(char letter) {
    if (random.nextInt(40) == 0) {
      int[] odd = {-1, -2, Integer.MIN_VALUE, Integer.MAX_VALUE, 8, 9, 10, 16, 17, 41, 65535, 65536, Integer.MAX_VALUE - 1};
      return odd[random.nextInt(odd.length)];
    }
    switch (letter) {
      case 'p':
        return random.nextInt(30) == 0 ? -1 : random.nextInt(8);
      case 'k':
      case 'w':
        return random.nextInt(7);
      case 'c':
      case 's':
        return random.nextInt(4);
      case 'v':
        return random.nextBoolean() ? random.nextInt(10) : random.nextBoolean() ? random.nextInt(101) : random.nextInt(65536);
      case 'l':
        return random.nextInt(65536) | random.nextInt(65536);
      case 'h':
        return random.nextInt(16);
      case 'g':
        return 1 + random.nextInt(4);
      case 't':
        return random.nextInt(17);
      case 'n':
        return random.nextInt(16);
      case 'm':
        return random.nextInt(11);
      case 'o':
        return random.nextInt(2);
      case 'd':
        return 1 + random.nextInt(20);
      case 'z':
        return random.nextInt();
      case 'f':
        return 1 + random.nextInt(4);
      case 'e':
        return random.nextInt(10);
      case 'b':
        return new int[] {8, 8, 16, 16, 32, 32, 32, 0, 24}[random.nextInt(9)];
      case 'i':
        return random.nextInt(8);
      case 'y':
        return random.nextBoolean() ? random.nextInt(100) : random.nextInt(300);
      case 'x':
        return random.nextInt(8);
      default:
        return random.nextInt(8) - 1;
    }
  }

  /** A sheet gets what will really be, or nearly so, by pairs as they are or by others: fits, may and judge hang on it. */
  private void tellWhatIsSeen() throws Exception {
    int s = random.nextInt(4);
    int n = random.nextInt(8);
    int people = model.count(1);
    call("image");
    for (int i = 0; people > 1 && i + 1 < people; i += 2) {
      call("share", random.nextInt(people), random.nextInt(people));
    }
    int hour = model.count(0);
    call("sheet", s, random.nextInt(3) == 0 ? 8 : 16, n);
    for (int i = 0; i < n; i++) {
      int set = hour + i < 16 ? setAt(hour + i, people) : random.nextInt(2);
      call("write", s, i, random.nextInt(25) == 0 ? random.nextInt(256) : set);
    }
    call("judge", s);
    call("undo");
    call("judge", s);
    call("fits", s);
    call("may", s, people == 0 ? 0 : random.nextInt(people));
  }

  private int setAt(int hour, int people) {
    int set = 0;
    for (int p = 0; p < people; p++) {
      set |= (model.shade(p) >> hour & 1) << p;
    }
    return set;
  }

  private void tell(String text) throws Exception {
    byte[] bytes = text.getBytes(StandardCharsets.ISO_8859_1);
    for (int i = 0; i < bytes.length; i += 4) {
      int n = Math.min(4, bytes.length - i);
      int number = random.nextInt();
      for (int j = 0; j < n; j++) {
        number = number << 8 | bytes[i + j] & 255;
      }
      call("feed", number, n);
    }
    if (random.nextInt(10) > 0) {
      call("text");
    }
  }

  private String drawnText() {
    StringBuilder text = new StringBuilder();
    int items = 1 + random.nextInt(4);
    for (int i = 0; i < items; i++) {
      text.append(i == 0 ? "" : ";").append(blanks()).append(drawnItem()).append(blanks());
    }
    if (random.nextInt(3) == 0) {
      int place = random.nextInt(text.length() + 1);
      String odd = "; ;;a9#\u00e9ZA 0sun\t share hour";
      text.insert(place, odd.charAt(random.nextInt(odd.length())));
    }
    if (random.nextInt(12) == 0) {
      text.setLength(random.nextInt(text.length()));
    }
    return text.toString();
  }

  private String drawnItem() {
    switch (random.nextInt(6)) {
      case 0:
        return "share " + number(8) + " " + number(8);
      case 1:
        return "light" + blanks() + number(random.nextInt(8) == 0 ? 70000 : 65536);
      case 2:
        return "hour " + number(18);
      default:
        String[] kinds = {"person", "strong", "old", "lender", "beggar", "twin", "duellist", "sun", "persons", "ol"};
        String item = kinds[random.nextInt(random.nextInt(6) == 0 ? 10 : 7)];
        if (random.nextBoolean()) {
          item += " sun" + blanks() + number(random.nextInt(8) == 0 ? 110 : 100);
        }
        if (random.nextBoolean()) {
          item += " strength" + blanks() + number(random.nextInt(8) == 0 ? 12 : 10);
        }
        if (random.nextBoolean()) {
          item += blanks() + (random.nextBoolean() ? " " : "") + "needs" + blanks() + number(random.nextInt(8) == 0 ? 140000 : 65536);
        }
        return item;
    }
  }

  private String number(int below) {
    String zeros = random.nextInt(8) == 0 ? "0000000000000".substring(random.nextInt(13)) : "";
    return zeros + random.nextInt(below);
  }

  private String blanks() {
    return "   ".substring(random.nextInt(4));
  }

  private void call(String name, int... numbers) throws Exception {
    if (called >= CALLS) {
      return;
    }
    called++;
    Class<?>[] types = new Class<?>[numbers.length];
    Object[] values = new Object[numbers.length];
    StringBuilder told = new StringBuilder(name).append('(');
    for (int i = 0; i < numbers.length; i++) {
      types[i] = int.class;
      values[i] = numbers[i];
      told.append(i == 0 ? "" : ", ").append(numbers[i]);
    }
    long got = ((Number) SharedShadow.class.getMethod(name, types).invoke(program, values)).longValue();
    Method of = Model.class.getMethod(name, types);
    of.setAccessible(true);
    long want = ((Number) of.invoke(model, values)).longValue();
    calls.add(told + ") -> " + got);
    checks.due(told + ")", got, want);
    if (got != want) {
      System.out.println(String.join("\n", calls));
    }
  }
}
