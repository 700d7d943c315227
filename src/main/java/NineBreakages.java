/**
 * A set of pieces and the people who must get through their breakages.
 * The promises are told in ../shared/DOC.md; the words in capitals there are the words used here.
 */
public final class NineBreakages {
  private static final int LOW = -1000000000;
  private static final int BEYOND = 1;
  private static final int NONE = 2;
  private static final int STATE = 3;
  private static final int FULL = 4;
  private static final int UNLIKE_KIND = 5;
  private static final int PARTED = 6;

  private static final int DAY_MOST = 9999;
  private static final int HAD_MOST = 9999;
  private static final int PEOPLE_MOST = 5;
  private static final int PIECES_MOST = 9;
  private static final int CARE_MOST = 9;
  private static final int TOLD_MOST = 9;
  private static final int KM_MOST = 69;
  private static final int KIND_MOST = 6;
  private static final int TAPE_MOST = 60;
  private static final int OPEN_MOST = 5;
  private static final int DIGITS_MOST = 4;
  private static final int LEVELS = 5;
  private static final int COMPARED = 2;
  private static final int WAITING_MOST = 24;
  private static final int TRACE_MOST = 30;
  private static final int SHEETS = 4;
  private static final int SHEET_MOST = 24;
  private static final int FIRST_MOST = 60;
  /** The line's lower side is at most 16 for each of the PIECES. */
  private static final int HALVINGS_MOST = 4 * PIECES_MOST;

  private static final int PIECE = 0;
  private static final int CUP = 1;
  private static final int BOAT = 2;
  private static final int PLATE = 3;
  private static final int SAUCER = 4;
  private static final int TUREEN = 5;
  private static final int JUG = 6;
  /** The KIND above each KIND; nothing (-1) is above PIECE. */
  private static final int[] ABOVE = {-1, PIECE, PIECE, PIECE, CUP, BOAT, PIECE};

  private static final int WHOLE = 0;
  private static final int BROKEN = 1;
  private static final int WALLED = 2;

  private static final int USES = 2;
  private static final int RISK = 0;
  private static final int YEARS = 1;
  private static final int NAMES = 3;
  private static final char[] RISK_NAMES = {'r', 'c', 'd'};
  private static final char[] YEARS_NAMES = {'c', 'b', 'p'};
  private static final int RISK_MOST = 16;
  private static final int YEARS_MOST = 199;

  /** What a step of a read TEXT is: below FIRST_NAME a number, below FIRST_SIGN a NAME, else its sign. */
  private static final int FIRST_NAME = 10000;
  private static final int FIRST_SIGN = 20000;

  private final House now;
  private final House kept;
  private final Reader reader;
  private final Thought thought;
  private final Voices voices;
  private final Sheet[] sheets;
  private final int[] errors;
  private int images;

  public NineBreakages() {
    now = new House();
    kept = new House();
    reader = new Reader();
    thought = new Thought();
    voices = new Voices();
    errors = new int[PARTED + 1];
    sheets = new Sheet[SHEETS];
    for (int i = 0; i < SHEETS; i++) {
      sheets[i] = new Sheet();
    }
  }

  // ---- pieces, people

  public int person(int care, int told) {
    if (!within(care, CARE_MOST) || !within(told, TOLD_MOST)) {
      return fail(BEYOND);
    }
    if (now.people >= PEOPLE_MOST) {
      return fail(FULL);
    }
    return now.addPerson(care, told);
  }

  public int personIs(int person, int what) {
    if (!now.isPerson(person)) {
      return fail(BEYOND);
    }
    switch (what) {
      case 0:
        return now.care[person];
      case 1:
        return now.due[person];
      case 2:
        return now.had[person];
      case 3:
        return bit(now.isThrough(person));
      case 4:
        return now.yearsOf(person);
      default:
        return fail(BEYOND);
    }
  }

  public int piece(int km, int owner) {
    if (!within(km, KM_MOST) || !now.isPerson(owner)) {
      return fail(BEYOND);
    }
    if (now.pieces >= PIECES_MOST) {
      return fail(FULL);
    }
    return now.addPiece(km, owner);
  }

  public int pieceIs(int piece, int what) {
    if (!now.isPiece(piece)) {
      return fail(BEYOND);
    }
    switch (what) {
      case 0:
        return now.kind[piece];
      case 1:
        return now.number[piece];
      case 2:
        return now.owner[piece];
      case 3:
        return now.state[piece];
      case 4:
        return bit(now.countsOn(piece, now.day));
      case 5:
        return now.riskIn(piece, now.owner[piece]);
      default:
        return fail(BEYOND);
    }
  }

  public int become(int piece, int km) {
    if (!now.isPiece(piece) || !within(km, KM_MOST)) {
      return fail(BEYOND);
    }
    int was = now.kind[piece];
    now.shape(piece, km);
    return was;
  }

  public int as(int piece, int kind) {
    if (!now.isPiece(piece) || !within(kind, KIND_MOST)) {
      return fail(BEYOND);
    }
    return isUnder(now.kind[piece], kind) ? now.number[piece] : fail(UNLIKE_KIND);
  }

  public int minds(int person, int care) {
    if (!now.isPerson(person) || !within(care, CARE_MOST)) {
      return fail(BEYOND);
    }
    int was = now.care[person];
    now.care[person] = care;
    return was;
  }

  public int lend(int piece, int person) {
    if (!now.isPiece(piece) || !now.isPerson(person)) {
      return fail(BEYOND);
    }
    int was = now.owner[piece];
    now.owner[piece] = person;
    return was;
  }

  public int wall(int piece, int is) {
    if (!now.isPiece(piece) || !within(is, 1)) {
      return fail(BEYOND);
    }
    int was = now.state[piece];
    if (was == BROKEN) {
      return fail(STATE);
    }
    now.state[piece] = is == 1 ? WALLED : WHOLE;
    return bit(was == WALLED);
  }

  public int risk(int piece, int person) {
    if (!now.isPiece(piece) || !now.isPerson(person)) {
      return fail(BEYOND);
    }
    return now.riskIn(piece, person);
  }

  public int drop(int piece) {
    if (!now.isPiece(piece)) {
      return fail(BEYOND);
    }
    if (now.state[piece] != WHOLE) {
      return fail(STATE);
    }
    return bit(now.breakPiece(piece));
  }

  // ---- texts

  public int feed(long word, int n) {
    if (n < 1 || n > 8) {
      return fail(BEYOND);
    }
    if (n > TAPE_MOST - now.taped) {
      return fail(FULL);
    }
    return now.tapeBytes(word, n);
  }

  public int text(int use) {
    if (!within(use, USES - 1)) {
      return fail(BEYOND);
    }
    boolean whole = reader.reads(now.tape, now.taped, use);
    now.taped = 0;
    if (!whole) {
      return -10 - reader.at;
    }
    now.texts[use].hold(reader.steps, reader.stepped);
    return 1;
  }

  public int untell(int use) {
    if (!within(use, USES - 1)) {
      return fail(BEYOND);
    }
    boolean was = now.texts[use].isThere();
    now.texts[use].forget();
    return bit(was);
  }

  public int law(int use, int a, int b, int c) {
    if (!within(use, USES - 1)) {
      return fail(BEYOND);
    }
    return now.gives(use, a, b, c);
  }

  // ---- days

  public int days(int n) {
    if (n < 1 || n > 60) {
      return fail(BEYOND);
    }
    if (now.day + n > DAY_MOST) {
      return fail(STATE);
    }
    now.day += n;
    return now.day;
  }

  public int loose(int n) {
    if (n < 1 || n > 30) {
      return fail(BEYOND);
    }
    if (now.day + n > DAY_MOST) {
      return fail(STATE);
    }
    int broke = 0;
    for (int i = 0; i < n; i++) {
      broke += now.dayByDraws();
    }
    return broke;
  }

  public int seed(int v) {
    int was = now.z;
    now.z = v;
    return was;
  }

  // ---- what would be

  public int left(int person, int what) {
    if (!now.isPerson(person)) {
      return fail(BEYOND);
    }
    switch (what) {
      case 0:
        return thought.leftOf(now, person);
      case 1:
        return bitsIn(thought.leftOf(now, person));
      case 2:
        return now.toComeOf(person);
      default:
        return fail(BEYOND);
    }
  }

  public long odds(int person, int n, int part) {
    if (!now.isPerson(person) || !within(n, PIECES_MOST) || !within(part, 1)) {
      return fail(BEYOND);
    }
    thought.thinkOdds(now, person, n);
    return part == 0 ? thought.above : thought.below;
  }

  public long through(int person, int part) {
    if (!now.isPerson(person) || !within(part, 1)) {
      return fail(BEYOND);
    }
    thought.thinkOut(now, person);
    return part == 0 ? thought.above : thought.below;
  }

  public int safest(int piece, int what) {
    if (!now.isPiece(piece) || !within(what, 1)) {
      return fail(BEYOND);
    }
    int who = thought.safestFor(now, piece);
    return what == 0 ? who : now.riskIn(piece, who);
  }

  public int saves(int person, int what) {
    if (!now.isPerson(person) || !within(what, 1)) {
      return fail(BEYOND);
    }
    if (now.isThrough(person)) {
      return fail(STATE);
    }
    int set = thought.savesOf(now, person);
    return what == 0 ? bitsIn(set) : set;
  }

  public int counts(int piece) {
    if (!now.isPiece(piece)) {
      return fail(BEYOND);
    }
    int first = thought.firstOf(now, piece);
    return first < 0 ? fail(NONE) : first;
  }

  public int fits(int sheet, int person, int what) {
    if (!isSheet(sheet) || !now.isPerson(person) || !within(what, 1)) {
      return fail(BEYOND);
    }
    if (sheets[sheet].isMissing()) {
      return fail(NONE);
    }
    int set = thought.fitsBy(now, sheets[sheet]);
    if (what == 0) {
      return set;
    }
    return set == 0 ? fail(NONE) : lowestIn(set);
  }

  // ---- voices, sheets, images, what is told

  public int voice(int piece, int voice, int x) {
    if (!now.isPiece(piece) || !within(voice, 3)) {
      return fail(BEYOND);
    }
    voices.turnTo(now.kind[piece], piece, now.number[piece]);
    int said = voices.say(voice, x);
    return voices.parted ? fail(PARTED) : said;
  }

  public int body(int i) {
    if (i < 0 || i >= voices.traced) {
      return fail(NONE);
    }
    return voices.trace[i];
  }

  public int sheet(int sheet, int bits, int n) {
    if (!isSheet(sheet) || !isWidth(bits)) {
      return fail(BEYOND);
    }
    if (bits == 0) {
      sheets[sheet].begin(0, 0);
      return 1;
    }
    if (n < 0) {
      return fail(STATE);
    }
    if (n > SHEET_MOST) {
      return fail(BEYOND);
    }
    sheets[sheet].begin(bits, n);
    return 1;
  }

  public int put(int sheet, int i, int v) {
    if (!isSheet(sheet)) {
      return fail(BEYOND);
    }
    Sheet row = sheets[sheet];
    if (row.isMissing()) {
      return fail(NONE);
    }
    if (i < 0 || i >= row.size) {
      return fail(BEYOND);
    }
    row.numbers[i] = row.lowestBits(v);
    return 1;
  }

  public int move(int sheet, int i, int other, int j, int n) {
    if (!isSheet(sheet) || !isSheet(other)) {
      return fail(BEYOND);
    }
    Sheet from = sheets[sheet];
    Sheet to = sheets[other];
    if (from.isMissing() || to.isMissing()) {
      return fail(NONE);
    }
    if (from.bits != to.bits) {
      return fail(UNLIKE_KIND);
    }
    if (!from.has(i, n) || !to.has(j, n)) {
      return fail(BEYOND);
    }
    System.arraycopy(from.numbers, i, to.numbers, j, n);
    return n;
  }

  public int cares(int sheet) {
    if (!isSheet(sheet)) {
      return fail(BEYOND);
    }
    if (sheets[sheet].isMissing()) {
      return fail(NONE);
    }
    return now.takeCares(sheets[sheet]);
  }

  public int judge(int sheet) {
    if (!isSheet(sheet)) {
      return fail(BEYOND);
    }
    if (sheets[sheet].isMissing()) {
      return fail(NONE);
    }
    return now.rightStates(sheets[sheet]);
  }

  public int image() {
    kept.copyFrom(now);
    images++;
    return images;
  }

  public int restore() {
    if (images == 0) {
      return fail(NONE);
    }
    now.copyFrom(kept);
    return now.day;
  }

  public int tell(int v) {
    if (now.waits >= WAITING_MOST) {
      return fail(FULL);
    }
    now.waiting[now.waits] = v;
    now.waits++;
    return now.waits;
  }

  public int check() {
    int wrong = now.firstWrongHad();
    now.waits = 0;
    return wrong + 1;
  }

  public int count(int what) {
    switch (what) {
      case 0:
        return now.pieces;
      case 1:
        return now.people;
      case 2:
        return now.day;
      case 3:
        return now.shards();
      case 4:
        return now.taped;
      case 5:
        return now.waits;
      case 6:
        return voices.traced;
      case 7:
        return now.z;
      default:
        return fail(BEYOND);
    }
  }

  public int told(int k) {
    if (k < BEYOND || k > PARTED) {
      return fail(BEYOND);
    }
    return errors[k];
  }

  // ---- small helps

  /** An ERROR is counted here and not by its value: z or a voice may be the same number. */
  private int fail(int k) {
    errors[k]++;
    return LOW - k;
  }

  private static boolean isSheet(int sheet) {
    return within(sheet, SHEETS - 1);
  }

  private static boolean isWidth(int bits) {
    return bits == 0 || bits == 8 || bits == 16 || bits == 32;
  }

  private static boolean within(int v, int most) {
    return v >= 0 && v <= most;
  }

  private static int held(int v, int most) {
    return Math.max(0, Math.min(most, v));
  }

  private static int bit(boolean is) {
    return is ? 1 : 0;
  }

  private static int bitsIn(int set) {
    return Integer.bitCount(set);
  }

  /** The least member of a set that isn't empty. */
  private static int lowestIn(int set) {
    int least = 0;
    while (least < 31 && (set >> least & 1) == 0) {
      least++;
    }
    return least;
  }

  private static boolean isUnder(int kind, int other) {
    int at = kind;
    for (int i = 0; i <= KIND_MOST && at >= 0 && at <= KIND_MOST; i++) {
      if (at == other) {
        return true;
      }
      at = ABOVE[at];
    }
    return false;
  }

  /** All that an IMAGE keeps. */
  private static final class House {
    int day;
    int z;
    int people;
    final int[] care;
    final int[] due;
    final int[] had;
    int pieces;
    final int[] kind;
    final int[] number;
    final int[] owner;
    final int[] state;
    final Text[] texts;
    final int[] tape;
    int taped;
    final int[] waiting;
    int waits;

    House() {
      z = 1;
      care = new int[PEOPLE_MOST];
      due = new int[PEOPLE_MOST];
      had = new int[PEOPLE_MOST];
      kind = new int[PIECES_MOST];
      number = new int[PIECES_MOST];
      owner = new int[PIECES_MOST];
      state = new int[PIECES_MOST];
      tape = new int[TAPE_MOST];
      waiting = new int[WAITING_MOST];
      texts = new Text[USES];
      for (int i = 0; i < USES; i++) {
        texts[i] = new Text();
      }
    }

    void copyFrom(House from) {
      day = from.day;
      z = from.z;
      people = from.people;
      pieces = from.pieces;
      taped = from.taped;
      waits = from.waits;
      System.arraycopy(from.care, 0, care, 0, PEOPLE_MOST);
      System.arraycopy(from.due, 0, due, 0, PEOPLE_MOST);
      System.arraycopy(from.had, 0, had, 0, PEOPLE_MOST);
      System.arraycopy(from.kind, 0, kind, 0, PIECES_MOST);
      System.arraycopy(from.number, 0, number, 0, PIECES_MOST);
      System.arraycopy(from.owner, 0, owner, 0, PIECES_MOST);
      System.arraycopy(from.state, 0, state, 0, PIECES_MOST);
      System.arraycopy(from.tape, 0, tape, 0, TAPE_MOST);
      System.arraycopy(from.waiting, 0, waiting, 0, WAITING_MOST);
      for (int i = 0; i < USES; i++) {
        texts[i].hold(from.texts[i].steps, from.texts[i].stepped);
      }
    }

    boolean isPerson(int person) {
      return person >= 0 && person < people;
    }

    boolean isPiece(int piece) {
      return piece >= 0 && piece < pieces;
    }

    int addPerson(int itsCare, int itsDue) {
      int person = people;
      care[person] = itsCare;
      due[person] = itsDue;
      had[person] = 0;
      people++;
      return person;
    }

    int addPiece(int km, int itsOwner) {
      int piece = pieces;
      shape(piece, km);
      owner[piece] = itsOwner;
      state[piece] = WHOLE;
      pieces++;
      return piece;
    }

    void shape(int piece, int km) {
      kind[piece] = km / 10;
      number[piece] = km % 10;
    }

    int shards() {
      int broken = 0;
      for (int i = 0; i < pieces; i++) {
        broken += bit(state[i] == BROKEN);
      }
      return broken;
    }

    boolean isThrough(int person) {
      return had[person] >= due[person];
    }

    int toComeOf(int person) {
      return Math.max(0, due[person] - had[person]);
    }

    int yearsOf(int person) {
      return gives(YEARS, toComeOf(person), shards(), person);
    }

    int riskIn(int piece, int person) {
      return riskBy(piece, care[person]);
    }

    int riskBy(int piece, int itsCare) {
      return gives(RISK, slipsBy(piece, itsCare), itsCare, day % 7);
    }

    int gives(int use, int a, int b, int c) {
      Text text = texts[use];
      if (use == RISK) {
        return held(text.isThere() ? text.workOut(a, b, c) : a, RISK_MOST);
      }
      return held(text.isThere() ? text.workOut(a, b, c) : 10 * a, YEARS_MOST);
    }

    private int slipsBy(int piece, int itsCare) {
      int asPiece = 10 - itsCare + number[piece];
      switch (kind[piece]) {
        case CUP:
          return asPiece + 3;
        case BOAT:
          return asPiece / 2;
        case PLATE:
          return asPiece - number[piece];
        case SAUCER:
          return asPiece + 3 + day % 3;
        case TUREEN:
          return asPiece / 2 + shards();
        case JUG:
          return itsCare > 6 ? 0 : asPiece;
        default:
          return asPiece;
      }
    }

    boolean countsOn(int piece, int itsDay) {
      boolean asBoat = itsDay % 2 == 0 || number[piece] > 4;
      switch (kind[piece]) {
        case BOAT:
          return asBoat;
        case PLATE:
          return number[piece] < 8;
        case SAUCER:
          return shards() > 0;
        case TUREEN:
          return asBoat || itsDay > 100;
        case JUG:
          return false;
        default:
          return true;
      }
    }

    /** Whether it COUNTED; that is asked first, as its own shard may be what lets a SAUCER COUNT. */
    boolean breakPiece(int piece) {
      boolean counted = countsOn(piece, day);
      int who = owner[piece];
      if (counted && had[who] < HAD_MOST) {
        had[who]++;
      }
      state[piece] = BROKEN;
      return counted;
    }

    /** How many BROKE. Each PIECE is asked in its turn: one ahead of it may have got its OWNER THROUGH. */
    int dayByDraws() {
      int broke = 0;
      for (int i = 0; i < pieces; i++) {
        int who = owner[i];
        if (state[i] == WHOLE && !isThrough(who) && draw() % 16 < riskIn(i, who)) {
          breakPiece(i);
          broke++;
        }
      }
      day++;
      return broke;
    }

    private int draw() {
      z = z * 1103515245 + 12345;
      return z >>> 8;
    }

    int tapeBytes(long word, int n) {
      for (int i = 0; i < n && taped < TAPE_MOST; i++) {
        tape[taped] = (int) (word >>> (8 * i) & 255L);
        taped++;
      }
      return taped;
    }

    int takeCares(Sheet sheet) {
      int taken = 0;
      while (taken < sheet.size && taken < people && within(sheet.numbers[taken], CARE_MOST)) {
        care[taken] = sheet.numbers[taken];
        taken++;
      }
      return taken;
    }

    int rightStates(Sheet sheet) {
      int right = 0;
      while (right < sheet.size && right < pieces && sheet.numbers[right] == state[right]) {
        right++;
      }
      return right;
    }

    /** The place of the first number that waits and isn't so; -1 if all are. */
    int firstWrongHad() {
      for (int i = 0; i < waits; i++) {
        if (i >= people || waiting[i] != had[i]) {
          return i;
        }
      }
      return -1;
    }
  }

  /** A TEXT as read: steps that put numbers on a stack or take them from it. No steps: no TEXT. */
  private static final class Text {
    final int[] steps;
    int stepped;
    private final int[] stack;

    Text() {
      steps = new int[TAPE_MOST];
      stack = new int[TAPE_MOST];
    }

    boolean isThere() {
      return stepped > 0;
    }

    void forget() {
      stepped = 0;
    }

    void hold(int[] from, int n) {
      System.arraycopy(from, 0, steps, 0, n);
      stepped = n;
    }

    int workOut(int a, int b, int c) {
      int top = 0;
      for (int i = 0; i < stepped; i++) {
        int step = steps[i];
        if (step < FIRST_SIGN && top < TAPE_MOST) {
          stack[top] = step < FIRST_NAME ? step : named(step - FIRST_NAME, a, b, c);
          top++;
        } else if (step == FIRST_SIGN + '!' && top >= 1) {
          stack[top - 1] = stack[top - 1] == 0 ? 1 : 0;
        } else if (top >= 2) {
          top--;
          stack[top - 1] = joined(step - FIRST_SIGN, stack[top - 1], stack[top]);
        }
      }
      return stack[0];
    }

    private static int named(int name, int a, int b, int c) {
      return name == 0 ? a : name == 1 ? b : c;
    }

    private static int joined(int sign, int p, int q) {
      switch (sign) {
        case '+':
          return p + q;
        case '-':
          return p - q;
        case '*':
          return p * q;
        case '/':
          return q == 0 ? 0 : p / q;
        case '%':
          return q == 0 ? 0 : p % q;
        case '<':
          return p < q ? 1 : 0;
        case '=':
          return p == q ? 1 : 0;
        case '>':
          return p > q ? 1 : 0;
        case '&':
          return p != 0 && q != 0 ? 1 : 0;
        default:
          return p != 0 || q != 0 ? 1 : 0;
      }
    }
  }

  /** Reads THE TAPE. Each part says whether it was read; if not, the place stands at the FAULT. */
  private static final class Reader {
    final int[] steps;
    int stepped;
    int at;
    private final int[] tape;
    private int size;
    private int use;

    Reader() {
      steps = new int[TAPE_MOST];
      tape = new int[TAPE_MOST];
    }

    boolean reads(int[] itsTape, int itsSize, int itsUse) {
      System.arraycopy(itsTape, 0, tape, 0, TAPE_MOST);
      size = itsSize;
      use = itsUse;
      at = 0;
      stepped = 0;
      return readsLevel(0, 0) && at == size;
    }

    private int next() {
      return at < size ? tape[at] : -1;
    }

    private void step(int what) {
      if (stepped < TAPE_MOST) {
        steps[stepped] = what;
        stepped++;
      }
    }

    /** T, A, B, S, P are alike: parts of the next level, with signs between them; but B has one sign at most. */
    private boolean readsLevel(int level, int open) {
      if (level >= LEVELS) {
        return readsOne(open);
      }
      if (open > OPEN_MOST || !readsLevel(level + 1, open)) {
        return false;
      }
      int most = level == COMPARED ? 1 : TAPE_MOST;
      int sign = next();
      for (int i = 0; i < most && levelOf(sign) == level; i++) {
        at++;
        if (!readsLevel(level + 1, open)) {
          return false;
        }
        step(FIRST_SIGN + sign);
        sign = next();
      }
      return true;
    }

    private static int levelOf(int sign) {
      switch (sign) {
        case '|':
          return 0;
        case '&':
          return 1;
        case '<':
        case '=':
        case '>':
          return COMPARED;
        case '+':
        case '-':
          return 3;
        case '*':
        case '/':
        case '%':
          return 4;
        default:
          return -1;
      }
    }

    /** Q. */
    private boolean readsOne(int open) {
      int sign = next();
      if (isDigit(sign)) {
        readNumber();
        return true;
      }
      int name = nameOf(sign);
      if (name < NAMES) {
        at++;
        step(FIRST_NAME + name);
        return true;
      }
      if (open >= OPEN_MOST) {
        return false;
      }
      if (sign == '!') {
        return readsNot(open + 1);
      }
      return sign == '(' && readsBraced(open + 1);
    }

    private boolean readsNot(int open) {
      at++;
      if (!readsOne(open)) {
        return false;
      }
      step(FIRST_SIGN + '!');
      return true;
    }

    private boolean readsBraced(int open) {
      at++;
      if (!readsLevel(0, open) || next() != ')') {
        return false;
      }
      at++;
      return true;
    }

    private void readNumber() {
      int v = 0;
      for (int i = 0; i < DIGITS_MOST && isDigit(next()); i++) {
        v = 10 * v + next() - '0';
        at++;
      }
      step(v);
    }

    private static boolean isDigit(int sign) {
      return sign >= '0' && sign <= '9';
    }

    /** Which of the NAMES of the USE it is; NAMES if it is none. */
    private int nameOf(int sign) {
      int name = 0;
      while (name < NAMES && sign != (use == RISK ? RISK_NAMES[name] : YEARS_NAMES[name])) {
        name++;
      }
      return name;
    }
  }

  /** What would be; nothing of the house is changed by it. */
  private static final class Thought {
    long above;
    long below;
    /** In how many of 16 ^ LEFT ways just so many BREAK. */
    private final long[] ways;

    Thought() {
      ways = new long[PIECES_MOST + 1];
    }

    int leftOf(House house, int person) {
      int set = 0;
      for (int i = 0; i < house.pieces; i++) {
        if (isLeft(house, i, person)) {
          set |= 1 << i;
        }
      }
      return set;
    }

    private boolean isLeft(House house, int piece, int person) {
      return house.owner[piece] == person && house.state[piece] == WHOLE && house.countsOn(piece, house.day);
    }

    void thinkOdds(House house, int person, int n) {
      long all = countWays(house, person);
      setFraction(ways[n], all);
    }

    void thinkOut(House house, int person) {
      long all = countWays(house, person);
      long out = 0;
      for (int n = house.toComeOf(person); n <= PIECES_MOST; n++) {
        out += ways[n];
      }
      setFraction(out, all);
    }

    private long countWays(House house, int person) {
      long all = 1;
      for (int n = 1; n <= PIECES_MOST; n++) {
        ways[n] = 0;
      }
      ways[0] = 1;
      for (int i = 0; i < house.pieces; i++) {
        if (isLeft(house, i, person)) {
          int risk = house.riskBy(i, house.care[person]);
          for (int n = PIECES_MOST; n > 0; n--) {
            ways[n] = ways[n] * (16 - risk) + ways[n - 1] * risk;
          }
          ways[0] = ways[0] * (16 - risk);
          all *= 16;
        }
      }
      return all;
    }

    /** All ways are a power of 2, so halving both is all that there is to reduce (0 comes to 0 by 1). */
    private void setFraction(long some, long all) {
      above = some;
      below = all;
      for (int i = 0; i < HALVINGS_MOST && below > 1 && above % 2 == 0; i++) {
        above /= 2;
        below /= 2;
      }
    }

    int safestFor(House house, int piece) {
      int who = 0;
      int least = house.riskBy(piece, house.care[0]);
      for (int i = 1; i < house.people; i++) {
        int risk = house.riskBy(piece, house.care[i]);
        if (risk < least) {
          who = i;
          least = risk;
        }
      }
      return who;
    }

    /** Any set of the right size will do, so the least has the least PIECES of those LEFT. */
    int savesOf(House house, int person) {
      int left = leftOf(house, person);
      int toWall = bitsIn(left) - (house.toComeOf(person) - 1);
      int set = 0;
      for (int i = 0; i < PIECES_MOST && toWall > 0; i++) {
        if ((left >> i & 1) == 1) {
          set |= 1 << i;
          toWall--;
        }
      }
      return set;
    }

    /** -1 if it doesn't COUNT by then. */
    int firstOf(House house, int piece) {
      for (int i = 0; i <= FIRST_MOST; i++) {
        if (house.countsOn(piece, house.day + i)) {
          return i;
        }
      }
      return -1;
    }

    int fitsBy(House house, Sheet sheet) {
      int set = 0;
      for (int care = 0; care <= CARE_MOST; care++) {
        if (tellsRisks(house, sheet, care)) {
          set |= 1 << care;
        }
      }
      return set;
    }

    private boolean tellsRisks(House house, Sheet sheet, int care) {
      for (int i = 0; i < sheet.size; i++) {
        if (i >= house.pieces || sheet.numbers[i] != house.riskBy(i, care)) {
          return false;
        }
      }
      return true;
    }
  }

  /** The VOICES of the PIECE that it is turned to, and THE TRACE. */
  private static final class Voices {
    final int[] trace;
    int traced;
    boolean parted;
    private int kind;
    private int k;
    private int m;

    Voices() {
      trace = new int[TRACE_MOST];
    }

    void turnTo(int itsKind, int itsK, int itsM) {
      kind = itsKind;
      k = itsK;
      m = itsM;
      traced = 0;
      parted = false;
    }

    int say(int voice, int x) {
      switch (voice) {
        case 0:
          return rings(kind, x);
        case 1:
          return slips(kind, x);
        case 2:
          return cracks(kind, x);
        default:
          return parts(kind, x);
      }
    }

    private void begins(int body) {
      if (traced < TRACE_MOST) {
        trace[traced] = body;
        traced++;
      }
    }

    /** From a KIND on upwards, as in the three below; each call on itself is for the KIND of a body above. */
    private int rings(int from, int x) {
      switch (from) {
        case CUP:
          begins(20);
          return rings(PIECE, x) - 4;
        case SAUCER:
          begins(50);
          return rings(CUP, x) * 3;
        case JUG:
          begins(70);
          return 9;
        default:
          begins(10);
          return x + k;
      }
    }

    private int slips(int from, int x) {
      switch (from) {
        case BOAT:
          begins(30);
          return 0 - slips(PIECE, x);
        case TUREEN:
          begins(60);
          return slips(BOAT, x + 1);
        case JUG:
          begins(71);
          return slips(PIECE, x) + m;
        default:
          begins(11);
          return rings(kind, x) * 2;
      }
    }

    private int cracks(int from, int x) {
      switch (from) {
        case PLATE:
          begins(40);
          return cracks(PIECE, x / 2);
        case SAUCER:
          begins(51);
          return cracks(CUP, x) ^ k;
        default:
          begins(12);
          return slips(kind, x) - m;
      }
    }

    private int parts(int from, int x) {
      if (from == CUP || from == SAUCER) {
        begins(21);
        int above = parts(PIECE, x);
        return parted ? 0 : above + slips(kind, 1);
      }
      begins(13);
      int by = m - k;
      parted = by == 0;
      return parted ? 0 : x / by;
    }
  }

  /** A row of numbers of so many bits; of 0 bits if it is missing. */
  private static final class Sheet {
    final int[] numbers;
    int bits;
    int size;

    Sheet() {
      numbers = new int[SHEET_MOST];
    }

    boolean isMissing() {
      return bits == 0;
    }

    void begin(int itsBits, int itsSize) {
      bits = itsBits;
      size = itsSize;
      for (int i = 0; i < SHEET_MOST; i++) {
        numbers[i] = 0;
      }
    }

    int lowestBits(int v) {
      return bits == 8 ? (byte) v : bits == 16 ? (short) v : v;
    }

    /** Whether n numbers stand there from i on; i + n could wrap. */
    boolean has(int i, int n) {
      return i >= 0 && n >= 0 && i <= size && n <= size - i;
    }
  }
}
