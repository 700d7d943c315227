import java.lang.reflect.Method;
import java.util.ArrayList;
import java.util.Arrays;
import java.util.List;
import java.util.Random;

/** Long runs of calls, ordinary and wild, on the class and on the Model: each answer is to be the same. */
public final class ModelTest {
  private static final int RUNS = 4000;
  private static final int CALLS = 512;

  /** Each call, how often it comes, and what its arguments are like. */
  private static final String[] FACE = {
    "person 4 0..9 0..9", "personIs 6 0..4 0..4", "piece 6 0..69 0..4", "pieceIs 10 0..8 0..5", "become 4 0..8 0..69",
    "as 3 0..8 0..6", "minds 4 0..4 0..9", "lend 4 0..8 0..4", "wall 4 0..8 0..1", "risk 6 0..8 0..4", "drop 2 0..8",
    "feed 1 any 1..8", "text 1 0..1", "untell 1 0..1", "law 6 0..1 any any any", "days 2 1..60", "loose 1 1..30",
    "loose 2 1..2", "seed 1 any", "left 4 0..4 0..2", "odds 6 0..4 0..9 0..1", "through 4 0..4 0..1",
    "safest 4 0..8 0..1", "saves 6 0..4 0..1", "counts 4 0..8", "fits 4 0..3 0..4 0..1", "voice 6 0..8 0..3 any",
    "body 4 0..6", "sheet 3 0..3 0..0 0..9", "sheet 6 0..3 8..8 0..9", "sheet 3 0..3 16..16 0..24",
    "sheet 3 0..3 32..32 0..5", "put 12 0..3 0..8 0..16", "put 4 0..3 0..8 any", "move 6 0..3 0..5 0..3 0..5 0..5",
    "cares 2 0..3", "judge 3 0..3", "image 1", "restore 1", "tell 2 any", "tell 4 0..3", "check 1", "count 8 0..7",
    "told 6 1..6"
  };

  private static final int[] EDGES = {
    -1, 0, 1, 2, 9, 10, 16, 24, 25, 30, 31, 60, 61, 255, 256, 65536, Integer.MAX_VALUE, Integer.MIN_VALUE,
    Due.BEYOND, Due.NONE, Due.STATE, Due.FULL, Due.KIND, Due.PARTED
  };

  private final Random random;
  private final List<String[]> bag = new ArrayList<>();
  private NineBreakages x;
  private Model model;
  private int calls;
  private String run;

  private ModelTest(int seed) {
    random = new Random(seed);
    for (String line : FACE) {
      String[] parts = line.split(" ");
      for (int i = 0; i < Integer.parseInt(parts[1]); i++) {
        bag.add(parts);
      }
    }
  }

  public static void main(String[] args) throws ReflectiveOperationException {
    ModelTest test = new ModelTest(20261118);
    for (int i = 0; i < RUNS; i++) {
      test.runOne("run " + i);
    }
    Due.end("ModelTest");
  }

  private void runOne(String name) throws ReflectiveOperationException {
    run = name;
    x = new NineBreakages();
    model = new Model();
    calls = 0;
    int people = random.nextInt(6);
    for (int i = 0; i < people; i++) {
      call("person", random.nextInt(10), random.nextInt(3) == 0 ? 9 : random.nextInt(10));
    }
    for (int i = random.nextInt(11); i > 0 && people > 0; i--) {
      call("piece", random.nextInt(70), random.nextInt(2) * random.nextInt(people));
    }
    while (calls < CALLS) {
      if (random.nextInt(25) == 0) {
        feedText();
      } else {
        some(bag.get(random.nextInt(bag.size())));
      }
    }
  }

  private void some(String[] parts) throws ReflectiveOperationException {
    Object[] args = new Object[parts.length - 2];
    for (int i = 0; i < args.length; i++) {
      args[i] = argument(parts[i + 2]);
    }
    if (parts[0].equals("feed")) {
      args[0] = random.nextLong();
    }
    call(parts[0], args);
  }

  private int argument(String like) {
    if (like.equals("any")) {
      int kind = random.nextInt(3);
      return kind == 0 ? random.nextInt() : kind == 1 ? random.nextInt(41) - 20 : edge();
    }
    if (random.nextInt(40) == 0) {
      return edge();
    }
    int dots = like.indexOf("..");
    int from = Integer.parseInt(like.substring(0, dots));
    int to = Integer.parseInt(like.substring(dots + 2));
    return from + random.nextInt(to - from + 1);
  }

  private int edge() {
    return EDGES[random.nextInt(EDGES.length)];
  }

  /** A text that is mostly right, now and then with a sign changed, gone or cut off behind. */
  private void feedText() throws ReflectiveOperationException {
    int use = random.nextInt(2);
    StringBuilder text = new StringBuilder(part(use == 0 ? "rcd" : "cbp", 0));
    int spoil = random.nextInt(6);
    int at = random.nextInt(text.length());
    if (spoil == 0) {
      text.setCharAt(at, "rcdbp!()|&<=>+-*/%019 ".charAt(random.nextInt(22)));
    } else if (spoil == 1) {
      text.deleteCharAt(at);
    } else if (spoil == 2) {
      text.setLength(at);
    }
    if (random.nextInt(4) != 0) {
      call("text", use);
    }
    for (int from = 0; from < text.length(); from += 8) {
      int n = Math.min(8, text.length() - from);
      long word = n == 8 ? 0 : random.nextLong() << (8 * n);
      for (int i = 0; i < n; i++) {
        word |= (long) text.charAt(from + i) << (8 * i);
      }
      call("feed", word, n);
    }
    call("text", use);
  }

  private String part(String names, int depth) {
    int kind = depth > 7 ? random.nextInt(4) : random.nextInt(10);
    if (kind < 2) {
      return String.valueOf(random.nextInt(kind == 0 ? 20 : 12000));
    }
    if (kind < 4) {
      return names.substring(random.nextInt(3)).substring(0, 1);
    }
    if (kind == 4) {
      return "!" + part(names, depth + 1);
    }
    if (kind == 5) {
      return "(" + part(names, depth + 1) + ")";
    }
    char sign = "|&<=>+-*/%".charAt(random.nextInt(10));
    return part(names, depth + 2) + sign + part(names, depth + 2);
  }

  private void call(String name, Object... args) throws ReflectiveOperationException {
    Class<?>[] types = new Class<?>[args.length];
    for (int i = 0; i < args.length; i++) {
      types[i] = args[i] instanceof Long ? long.class : int.class;
    }
    Method ours = NineBreakages.class.getMethod(name, types);
    Method models = Model.class.getMethod(name, types);
    if (calls == CALLS) {
      return; // What later calls answer is free.
    }
    calls++;
    long got = ((Number) ours.invoke(x, args)).longValue();
    long want = ((Number) models.invoke(model, args)).longValue();
    if (got != want) {
      Due.is(run + " call " + calls + ": " + name + Arrays.toString(args), got, want);
    } else {
      Due.is(name, got, want);
    }
  }
}
