import java.math.BigInteger;
import java.util.ArrayList;
import java.util.Arrays;
import java.util.List;

/**
 * The document written a second time, as plainly as the Java library allows and by other ways than the class:
 * sets are tried one by one, texts are split at their signs, voices are methods that override one another.
 */
final class Model {
  /** An answer that is an ERROR; PARTED comes out of the midst of a voice. */
  private static final class Refused extends RuntimeException {
    private static final long serialVersionUID = 1L;
    final int k;

    Refused(int k) {
      super(null, null, false, false);
      this.k = k;
    }
  }

  private interface Act {
    long work();
  }

  private static final class One {
    int care;
    int told;
    int had;

    boolean through() {
      return had >= told;
    }
  }

  private static final class Thing {
    int kind;
    int m;
    int owner;
    int state;
  }

  private static final int[][] KINDS_ABOVE = {{0}, {1, 0}, {2, 0}, {3, 0}, {4, 1, 0}, {5, 2, 0}, {6, 0}};

  private int day = 0;
  private int z = 1;
  private List<One> people = new ArrayList<>();
  private List<Thing> things = new ArrayList<>();
  private String[] texts = new String[2];
  private String tape = "";
  private List<Integer> waiting = new ArrayList<>();
  private Model kept = null;
  private int images = 0;
  private final long[][] rows = new long[4][];
  private final int[] widths = new int[4];
  private List<Integer> trace = new ArrayList<>();
  private final int[] errors = new int[7];

  // ---- helps

  private long act(Act act) {
    try {
      return act.work();
    } catch (Refused e) {
      errors[e.k]++;
      return -1000000000L - e.k;
    }
  }

  private int acts(Act act) {
    return (int) act(act);
  }

  private static void refuse(int k, boolean is) {
    if (is) {
      throw new Refused(k);
    }
  }

  private static void among(long v, long from, long to) {
    refuse(1, v < from || v > to);
  }

  private One one(int person) {
    among(person, 0, people.size() - 1);
    return people.get(person);
  }

  private Thing thing(int piece) {
    among(piece, 0, things.size() - 1);
    return things.get(piece);
  }

  private static int num(boolean is) {
    return is ? 1 : 0;
  }

  private int shards() {
    return (int) things.stream().filter(t -> t.state == 1).count();
  }

  private boolean under(Thing t, int kind) {
    return Arrays.stream(KINDS_ABOVE[t.kind]).anyMatch(k -> k == kind);
  }

  private int slips(Thing t, int care) {
    int plain = 10 - care + t.m;
    if (t.kind == 6) {
      return care > 6 ? 0 : plain;
    }
    if (under(t, 2)) {
      return plain / 2 + (t.kind == 5 ? shards() : 0);
    }
    if (under(t, 1)) {
      return plain + 3 + (t.kind == 4 ? day % 3 : 0);
    }
    return t.kind == 3 ? plain - t.m : plain;
  }

  private boolean counting(Thing t, int when) {
    boolean boat = when % 2 == 0 || t.m > 4;
    boolean[] all = {true, true, boat, t.m < 8, shards() > 0, boat || when > 100, false};
    return all[t.kind];
  }

  private int held(int use, int a, int b, int c) {
    int most = use == 0 ? 16 : 199;
    int v = texts[use] != null ? worked(texts[use], use, a, b, c) : use == 0 ? a : 10 * a;
    return v < 0 ? 0 : v > most ? most : v;
  }

  private int riskWith(Thing t, int care) {
    return held(0, slips(t, care), care, day % 7);
  }

  private int toCome(One one) {
    return one.through() ? 0 : one.told - one.had;
  }

  private boolean breaks(Thing t) {
    boolean counted = counting(t, day);
    One one = people.get(t.owner);
    one.had = Math.min(9999, one.had + num(counted));
    t.state = 1;
    return counted;
  }

  private List<Integer> leftOf(int person) {
    List<Integer> left = new ArrayList<>();
    for (int i = 0; i < things.size(); i++) {
      Thing t = things.get(i);
      if (t.owner == person && t.state == 0 && counting(t, day)) {
        left.add(i);
      }
    }
    return left;
  }

  // ---- texts

  /** Where a text can't go on, by what may follow what; -1 if it is whole. */
  private static int fault(String text, int use) {
    String names = use == 0 ? "rcd" : "cbp";
    List<Character> open = new ArrayList<>();
    List<Boolean> compared = new ArrayList<>(List.of(false));
    boolean wants = true;
    int digits = 0;
    for (int i = 0; i < text.length(); i++) {
      char c = text.charAt(i);
      boolean digit = "0123456789".indexOf(c) >= 0;
      int last = compared.size() - 1;
      if (wants) {
        if (c == '!' || c == '(') {
          if (open.size() == 5) {
            return i;
          }
          open.add(c);
          if (c == '(') {
            compared.add(false);
          }
          continue;
        }
        if (!digit && names.indexOf(c) < 0) {
          return i;
        }
        digits = digit ? 1 : 9;
        wants = false;
      } else if (digit) {
        if (digits >= 4) {
          return i;
        }
        digits++;
        continue;
      } else if (c == ')') {
        if (open.isEmpty()) {
          return i;
        }
        open.remove(open.size() - 1);
        compared.remove(last);
        digits = 9;
      } else {
        boolean compares = "<=>".indexOf(c) >= 0;
        if ("|&<=>+-*/%".indexOf(c) < 0 || compares && compared.get(last)) {
          return i;
        }
        if (compares || c == '|' || c == '&') {
          compared.set(last, compares);
        }
        wants = true;
      }
      while (!wants && !open.isEmpty() && open.get(open.size() - 1) == '!') {
        open.remove(open.size() - 1);
      }
    }
    return wants || open.contains('(') ? text.length() : -1;
  }

  /** A whole text is split at its last sign of the loosest kind. */
  private static int worked(String text, int use, int a, int b, int c) {
    for (String signs : new String[] {"|", "&", "<=>", "+-", "*/%"}) {
      int depth = 0;
      for (int i = text.length() - 1; i >= 0; i--) {
        char s = text.charAt(i);
        depth += s == ')' ? 1 : s == '(' ? -1 : 0;
        if (depth == 0 && signs.indexOf(s) >= 0) {
          int p = worked(text.substring(0, i), use, a, b, c);
          int q = worked(text.substring(i + 1), use, a, b, c);
          return joined(s, p, q);
        }
      }
    }
    char first = text.charAt(0);
    if (first == '!') {
      return num(worked(text.substring(1), use, a, b, c) == 0);
    }
    if (first == '(') {
      return worked(text.substring(1, text.length() - 1), use, a, b, c);
    }
    int name = (use == 0 ? "rcd" : "cbp").indexOf(first);
    return name < 0 ? Integer.parseInt(text) : new int[] {a, b, c}[name];
  }

  private static int joined(char sign, int p, int q) {
    switch (sign) {
      case '|': return num(p != 0 || q != 0);
      case '&': return num(p != 0 && q != 0);
      case '<': return num(p < q);
      case '=': return num(p == q);
      case '>': return num(p > q);
      case '+': return (int) ((long) p + q);
      case '-': return (int) ((long) p - q);
      case '*': return (int) ((long) p * q);
      case '/': return q == 0 ? 0 : (int) ((long) p / q);
      default: return q == 0 ? 0 : (int) ((long) p % q);
    }
  }

  // ---- voices

  private class Piece {
    int k;
    int m;

    int rings(int x) { trace.add(10); return x + k; }
    int slips(int x) { trace.add(11); return rings(x) * 2; }
    int cracks(int x) { trace.add(12); return slips(x) - m; }
    int parts(int x) { trace.add(13); refuse(6, m == k); return x / (m - k); }
  }

  private class Cup extends Piece {
    @Override int rings(int x) { trace.add(20); return super.rings(x) - 4; }
    @Override int parts(int x) { trace.add(21); return super.parts(x) + slips(1); }
  }

  private class Boat extends Piece {
    @Override int slips(int x) { trace.add(30); return 0 - super.slips(x); }
  }

  private class Plate extends Piece {
    @Override int cracks(int x) { trace.add(40); return super.cracks(x / 2); }
  }

  private class Saucer extends Cup {
    @Override int rings(int x) { trace.add(50); return super.rings(x) * 3; }
    @Override int cracks(int x) { trace.add(51); return super.cracks(x) ^ k; }
  }

  private class Tureen extends Boat {
    @Override int slips(int x) { trace.add(60); return super.slips(x + 1); }
  }

  private class Jug extends Piece {
    @Override int rings(int x) { trace.add(70); return 9; }
    @Override int slips(int x) { trace.add(71); return super.slips(x) + m; }
  }

  private Piece speaker(int piece) {
    Thing t = things.get(piece);
    Piece[] all = {new Piece(), new Cup(), new Boat(), new Plate(), new Saucer(), new Tureen(), new Jug()};
    all[t.kind].k = piece;
    all[t.kind].m = t.m;
    return all[t.kind];
  }

  // ---- the face

  public int person(int care, int told) {
    return acts(() -> {
      among(care, 0, 9);
      among(told, 0, 9);
      refuse(4, people.size() == 5);
      One one = new One();
      one.care = care;
      one.told = told;
      people.add(one);
      return people.size() - 1;
    });
  }

  public int personIs(int person, int what) {
    return acts(() -> {
      One one = one(person);
      among(what, 0, 4);
      int years = held(1, toCome(one), shards(), person);
      return new int[] {one.care, one.told, one.had, num(one.through()), years}[what];
    });
  }

  public int piece(int km, int owner) {
    return acts(() -> {
      among(km, 0, 69);
      one(owner);
      refuse(4, things.size() == 9);
      Thing t = new Thing();
      t.kind = km / 10;
      t.m = km % 10;
      t.owner = owner;
      things.add(t);
      return things.size() - 1;
    });
  }

  public int pieceIs(int piece, int what) {
    return acts(() -> {
      Thing t = thing(piece);
      among(what, 0, 5);
      int risk = riskWith(t, people.get(t.owner).care);
      return new int[] {t.kind, t.m, t.owner, t.state, num(counting(t, day)), risk}[what];
    });
  }

  public int become(int piece, int km) {
    return acts(() -> {
      Thing t = thing(piece);
      among(km, 0, 69);
      int was = t.kind;
      t.kind = km / 10;
      t.m = km % 10;
      return was;
    });
  }

  public int as(int piece, int kind) {
    return acts(() -> {
      Thing t = thing(piece);
      among(kind, 0, 6);
      refuse(5, !under(t, kind));
      return t.m;
    });
  }

  public int minds(int person, int care) {
    return acts(() -> {
      One one = one(person);
      among(care, 0, 9);
      int was = one.care;
      one.care = care;
      return was;
    });
  }

  public int lend(int piece, int person) {
    return acts(() -> {
      Thing t = thing(piece);
      one(person);
      int was = t.owner;
      t.owner = person;
      return was;
    });
  }

  public int wall(int piece, int is) {
    return acts(() -> {
      Thing t = thing(piece);
      among(is, 0, 1);
      refuse(3, t.state == 1);
      int was = t.state / 2;
      t.state = 2 * is;
      return was;
    });
  }

  public int risk(int piece, int person) {
    return acts(() -> riskWith(thing(piece), one(person).care));
  }

  public int drop(int piece) {
    return acts(() -> {
      Thing t = thing(piece);
      refuse(3, t.state != 0);
      return num(breaks(t));
    });
  }

  public int feed(long word, int n) {
    return acts(() -> {
      among(n, 1, 8);
      refuse(4, tape.length() + n > 60);
      long rest = word;
      for (int i = 0; i < n; i++) {
        tape += (char) Math.floorMod(rest, 256L);
        rest = Math.floorDiv(rest, 256L);
      }
      return tape.length();
    });
  }

  public int text(int use) {
    return acts(() -> {
      among(use, 0, 1);
      String text = tape;
      tape = "";
      int fault = fault(text, use);
      if (fault >= 0) {
        return -10 - fault;
      }
      texts[use] = text;
      return 1;
    });
  }

  public int untell(int use) {
    return acts(() -> {
      among(use, 0, 1);
      int was = num(texts[use] != null);
      texts[use] = null;
      return was;
    });
  }

  public int law(int use, int a, int b, int c) {
    return acts(() -> {
      among(use, 0, 1);
      return held(use, a, b, c);
    });
  }

  public int days(int n) {
    return acts(() -> {
      among(n, 1, 60);
      refuse(3, day > 9999 - n);
      day += n;
      return day;
    });
  }

  public int loose(int n) {
    return acts(() -> {
      among(n, 1, 30);
      refuse(3, day > 9999 - n);
      int before = shards();
      for (int end = day + n; day < end; day++) {
        for (Thing t : things) {
          One one = people.get(t.owner);
          if (t.state == 0 && !one.through()) {
            z = (int) (z * 1103515245L + 12345);
            if (((z & 0xffffffffL) >> 8) % 16 < riskWith(t, one.care)) {
              breaks(t);
            }
          }
        }
      }
      return shards() - before;
    });
  }

  public int seed(int v) {
    int was = z;
    z = v;
    return was;
  }

  public int left(int person, int what) {
    return acts(() -> {
      One one = one(person);
      among(what, 0, 2);
      List<Integer> left = leftOf(person);
      return new int[] {left.stream().mapToInt(i -> 1 << i).sum(), left.size(), toCome(one)}[what];
    });
  }

  /** The ways of all the sets that may BREAK, of 16 ^ LEFT; those of the right sizes are summed. */
  private long chance(int person, int from, int to, int part) {
    List<Integer> left = leftOf(person);
    BigInteger above = BigInteger.ZERO;
    for (int set = 0; set < 1 << left.size(); set++) {
      if (Integer.bitCount(set) >= from && Integer.bitCount(set) <= to) {
        BigInteger ways = BigInteger.ONE;
        for (int i = 0; i < left.size(); i++) {
          int risk = riskWith(things.get(left.get(i)), people.get(person).care);
          ways = ways.multiply(BigInteger.valueOf((set >> i & 1) == 1 ? risk : 16 - risk));
        }
        above = above.add(ways);
      }
    }
    BigInteger below = BigInteger.valueOf(16).pow(left.size());
    BigInteger shared = above.gcd(below);
    return (part == 0 ? above : below).divide(shared).longValueExact();
  }

  public long odds(int person, int n, int part) {
    return act(() -> {
      one(person);
      among(n, 0, 9);
      among(part, 0, 1);
      return chance(person, n, n, part);
    });
  }

  public long through(int person, int part) {
    return act(() -> {
      One one = one(person);
      among(part, 0, 1);
      return chance(person, one.told - one.had, 9, part);
    });
  }

  public int safest(int piece, int what) {
    return acts(() -> {
      Thing t = thing(piece);
      among(what, 0, 1);
      for (int risk = 0; ; risk++) {
        for (int i = 0; i < people.size(); i++) {
          if (riskWith(t, people.get(i).care) == risk) {
            return what == 0 ? i : risk;
          }
        }
      }
    });
  }

  public int saves(int person, int what) {
    return acts(() -> {
      One one = one(person);
      among(what, 0, 1);
      refuse(3, one.through());
      List<Integer> left = leftOf(person);
      int all = left.stream().mapToInt(i -> 1 << i).sum();
      for (int n = 0; ; n++) {
        for (int set = 0; set < 512; set++) {
          if (Integer.bitCount(set) == n && (set & ~all) == 0 && left.size() - n < one.told - one.had) {
            return what == 0 ? n : set;
          }
        }
      }
    });
  }

  public int counts(int piece) {
    return acts(() -> {
      Thing t = thing(piece);
      int behind = 0;
      while (behind <= 60 && !counting(t, day + behind)) {
        behind++;
      }
      refuse(2, behind > 60);
      return behind;
    });
  }

  public int fits(int sheet, int person, int what) {
    return acts(() -> {
      among(sheet, 0, 3);
      one(person);
      among(what, 0, 1);
      refuse(2, rows[sheet] == null);
      int set = 0;
      for (int care = 9; care >= 0; care--) {
        boolean so = rows[sheet].length <= things.size();
        for (int i = 0; so && i < rows[sheet].length; i++) {
          so = rows[sheet][i] == riskWith(things.get(i), care);
        }
        set = set * 2 + num(so);
      }
      refuse(2, what == 1 && set == 0);
      return what == 0 ? set : Integer.numberOfTrailingZeros(set);
    });
  }

  public int voice(int piece, int voice, int x) {
    return acts(() -> {
      thing(piece);
      among(voice, 0, 3);
      trace = new ArrayList<>();
      Piece speaker = speaker(piece);
      switch (voice) {
        case 0: return speaker.rings(x);
        case 1: return speaker.slips(x);
        case 2: return speaker.cracks(x);
        default: return speaker.parts(x);
      }
    });
  }

  public int body(int i) {
    return acts(() -> {
      refuse(2, i < 0 || i >= Math.min(30, trace.size()));
      return trace.get(i);
    });
  }

  public int sheet(int sheet, int bits, int n) {
    return acts(() -> {
      among(sheet, 0, 3);
      refuse(1, !List.of(0, 8, 16, 32).contains(bits));
      refuse(3, bits != 0 && n < 0);
      refuse(1, bits != 0 && n > 24);
      rows[sheet] = bits == 0 ? null : new long[n];
      widths[sheet] = bits;
      return 1;
    });
  }

  private long[] rowOf(int sheet) {
    among(sheet, 0, 3);
    refuse(2, rows[sheet] == null);
    return rows[sheet];
  }

  public int put(int sheet, int i, int v) {
    return acts(() -> {
      long[] row = rowOf(sheet);
      among(i, 0, row.length - 1);
      row[i] = Math.floorMod((long) v, 1L << widths[sheet]);
      return 1;
    });
  }

  public int move(int sheet, int i, int other, int j, int n) {
    return acts(() -> {
      among(sheet, 0, 3);
      among(other, 0, 3);
      long[] from = rowOf(sheet);
      long[] to = rowOf(other);
      refuse(5, widths[sheet] != widths[other]);
      refuse(1, n < 0 || i < 0 || j < 0);
      refuse(1, (long) i + n > from.length || (long) j + n > to.length);
      long[] were = from.clone();
      for (int c = 0; c < n; c++) {
        to[j + c] = were[i + c];
      }
      return n;
    });
  }

  public int cares(int sheet) {
    return acts(() -> {
      int n = 0;
      for (long v : rowOf(sheet)) {
        if (n == people.size() || v < 0 || v > 9) {
          break;
        }
        people.get(n).care = (int) v;
        n++;
      }
      return n;
    });
  }

  public int judge(int sheet) {
    return acts(() -> {
      int n = 0;
      for (long v : rowOf(sheet)) {
        if (n == things.size() || v != things.get(n).state) {
          break;
        }
        n++;
      }
      return n;
    });
  }

  private static void copy(Model from, Model to) {
    to.day = from.day;
    to.z = from.z;
    to.tape = from.tape;
    to.texts = from.texts.clone();
    to.waiting = new ArrayList<>(from.waiting);
    to.people = new ArrayList<>();
    for (One one : from.people) {
      One c = new One();
      c.care = one.care;
      c.told = one.told;
      c.had = one.had;
      to.people.add(c);
    }
    to.things = new ArrayList<>();
    for (Thing t : from.things) {
      Thing c = new Thing();
      c.kind = t.kind;
      c.m = t.m;
      c.owner = t.owner;
      c.state = t.state;
      to.things.add(c);
    }
  }

  public int image() {
    kept = new Model();
    copy(this, kept);
    images++;
    return images;
  }

  public int restore() {
    return acts(() -> {
      refuse(2, kept == null);
      copy(kept, this);
      return day;
    });
  }

  public int tell(int v) {
    return acts(() -> {
      refuse(4, waiting.size() == 24);
      waiting.add(v);
      return waiting.size();
    });
  }

  public int check() {
    List<Integer> told = waiting;
    waiting = new ArrayList<>();
    for (int i = 0; i < told.size(); i++) {
      if (i >= people.size() || people.get(i).had != told.get(i)) {
        return 1 + i;
      }
    }
    return 0;
  }

  public int count(int what) {
    return acts(() -> {
      among(what, 0, 7);
      int bodies = Math.min(30, trace.size());
      return new int[] {
        things.size(), people.size(), day, shards(), tape.length(), waiting.size(), bodies, z
      }[what];
    });
  }

  public int told(int k) {
    return acts(() -> {
      among(k, 1, 6);
      return errors[k];
    });
  }
}
