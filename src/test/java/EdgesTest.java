/**
 * The sentences of the document that name a boundary case, in their order, each with what is due on both sides of it.
 * That a refused call changes nothing is in RefusedTest; where a TEXT's FAULT is, for all short texts, in TextsTest.
 */
public final class EdgesTest {
  private static final int BEYOND = Due.BEYOND;
  private static final int NONE = Due.NONE;
  private static final int STATE = Due.STATE;
  private static final int FULL = Due.FULL;
  private static final int KIND = Due.KIND;
  private static final int PARTED = Due.PARTED;
  private static final int MIN = Integer.MIN_VALUE;
  private static final int MAX = Integer.MAX_VALUE;

  private static String quoted = "";

  private EdgesTest() {}

  public static void main(String[] args) {
    errors();
    orderOfErrors();
    quotients();
    daysAndPeople();
    piecesAndSlips();
    countingAndBreaking();
    daysByDraws();
    textsAsTold();
    whatTextsGive();
    leftAndOdds();
    safestAndSaves();
    firstAndFits();
    voicesThatWrap();
    voicesThatPart();
    bodiesOfEachKind();
    traceAndSheets();
    promises1To5();
    promises6To12();
    promises13To16();
    promises17To19();
    promises20To26();
    promises27To30();
    promise31();
    promises32To35();
    promises36To39();
    Due.end("EdgesTest");
  }

  /** A sentence of a promise; 0: of what stands ahead of the promises. What is asked next is asked for it. */
  private static void says(int promise, String sentence) {
    quoted = (promise == 0 ? "" : promise + ": ") + sentence;
    Due.is("the document says: " + quoted, Doc.says(promise, sentence) ? 1 : 0, 1);
  }

  private static void is(String what, long got, long want) {
    Due.is("[" + quoted + "] " + what, got, want);
  }

  private static NineBreakages with(int care, int told, int... kms) {
    NineBreakages x = new NineBreakages();
    x.person(care, told);
    for (int km : kms) {
      x.piece(km, 0);
    }
    return x;
  }

  private static NineBreakages onDay(int day, NineBreakages x) {
    return Due.onDay(day, x);
  }

  private static NineBreakages by(int use, String text, NineBreakages x) {
    is("text " + text, Due.text(x, use, text), 1);
    return x;
  }

  // ---- Terms

  private static void errors() {
    says(0, "ERRORS are answers below -1000000000: LOW is -1000000000; LOW - 1 BEYOND, LOW - 2 NONE, LOW - 3 STATE, "
        + "LOW - 4 FULL, LOW - 5 KIND, LOW - 6 PARTED (in longs, too).");
    NineBreakages x = with(4, 1, 0);
    is("BEYOND", x.count(8), -1000000001);
    is("NONE", x.restore(), -1000000002);
    x.drop(0);
    is("STATE", x.drop(0), -1000000003);
    for (int i = 1; i < 9; i++) {
      x.piece(0, 0);
    }
    is("FULL", x.piece(0, 0), -1000000004);
    is("KIND", x.as(0, 1), -1000000005);
    is("PARTED", x.voice(0, 3, 1), -1000000006);
    is("a long BEYOND of odds", x.odds(1, 0, 0), -1000000001L);
    is("a long BEYOND of through", x.through(1, 1), -1000000001L);
    for (int k = 1; k <= 6; k++) {
      is("told " + k, x.told(k), k == 1 ? 3 : 1);
    }
  }

  private static void orderOfErrors() {
    says(0, "Each act tells its ERRORS in the order in which they are asked");
    NineBreakages x = with(4, 0, 0, 0, 0, 0, 0, 0, 0, 0, 0);
    for (int i = 0; i < 4; i++) {
      x.person(1, 1);
    }
    Due.feed(x, "1".repeat(60));
    is("person: BEYOND, FULL", x.person(10, 0), BEYOND);
    is("person's told: BEYOND, FULL", x.person(0, -1), BEYOND);
    is("piece: BEYOND, FULL", x.piece(70, 0), BEYOND);
    is("piece's owner: BEYOND, FULL", x.piece(0, 5), BEYOND);
    is("as: BEYOND, KIND", x.as(0, 7), BEYOND);
    is("feed: BEYOND, FULL", x.feed(0, 9), BEYOND);
    is("saves: BEYOND, STATE", x.saves(0, -1), BEYOND);
    is("fits' person: BEYOND, NONE", x.fits(0, 5, 0), BEYOND);
    is("fits' what: BEYOND, NONE", x.fits(0, 0, 2), BEYOND);
    x.drop(0);
    is("wall: BEYOND, STATE", x.wall(0, 2), BEYOND);
    is("voice: BEYOND, PARTED", x.voice(0, 4, 0), BEYOND);
    is("sheet: BEYOND, STATE", x.sheet(4, 8, -1), BEYOND);
    is("sheet's bits: BEYOND, STATE", x.sheet(0, 9, -1), BEYOND);
    is("sheet's n: STATE", x.sheet(0, 8, MIN), STATE);
    is("put: NONE, BEYOND of i", x.put(0, 24, 0), NONE);
    is("put: BEYOND, NONE", x.put(4, 0, 0), BEYOND);
    is("move: BEYOND, NONE", x.move(0, 0, 4, 0, 0), BEYOND);
    x.sheet(0, 8, 2);
    is("move: NONE, BEYOND of n", x.move(0, 0, 1, 0, -1), NONE);
    is("move from: NONE, BEYOND of n", x.move(1, 0, 0, 0, -1), NONE);
    x.sheet(1, 16, 2);
    is("move: KIND, BEYOND of n", x.move(0, 0, 1, 0, -1), KIND);
    is("move: KIND, BEYOND of i", x.move(0, 3, 1, 0, 0), KIND);
    onDay(9999, x);
    is("days: BEYOND, STATE", x.days(61), BEYOND);
    is("loose: BEYOND, STATE", x.loose(31), BEYOND);
    is("days: STATE", x.days(60), STATE);
    is("loose: STATE", x.loose(30), STATE);
  }

  private static void quotients() {
    says(0, "Quotients are cut toward 0.");
    is("a boat's 11 by 2", with(4, 9, 25).risk(0, 0), 5);
    is("a text's -7 by 2", by(1, "c/2+9", new NineBreakages()).law(1, -7, 0, 0), 6);
    is("a text's 7 by -2", by(1, "7/c+9", new NineBreakages()).law(1, -2, 0, 0), 6);
    is("a voice's -7 by 2", speaker(0, 2).voice(0, 3, -7), -3);
    is("a voice's 7 by -2", speaker(2, 0).voice(2, 3, 7), -3);
    is("a plate's -7 by 2", speaker(0, 30).voice(0, 2, -7), -6);
  }

  private static void daysAndPeople() {
    says(0, "DAY (0 .. 9999; 0 at first).");
    NineBreakages x = new NineBreakages();
    is("at first", x.count(2), 0);
    onDay(9999, x);
    is("the last", x.count(2), 9999);
    is("none behind it", x.days(1), STATE);
    is("nor by draws", x.loose(1), STATE);
    is("still the last", x.count(2), 9999);
    says(0, "PEOPLE 0, 1, .. (at most 5): CARE (0 .. 9), TOLD (how many breakages; 0 .. 9), HAD (0 .. 9999; 0 at "
        + "first).");
    x = new NineBreakages();
    is("none at first", x.personIs(0, 0), BEYOND);
    is("least", x.person(0, 0), 0);
    is("most", x.person(9, 9), 1);
    is("care below", x.person(-1, 5), BEYOND);
    is("care above", x.person(10, 5), BEYOND);
    is("told below", x.person(5, -1), BEYOND);
    is("told above", x.person(5, 10), BEYOND);
    is("had at first", x.personIs(1, 2), 0);
    is("the third", x.person(1, 1), 2);
    is("the fourth", x.person(1, 1), 3);
    is("the fifth", x.person(1, 1), 4);
    is("a sixth", x.person(1, 1), FULL);
    says(0, "THROUGH is who has HAD as many as TOLD, or more.");
    x = with(4, 2, 1, 1, 1);
    x.person(4, 0);
    is("none of none", x.personIs(1, 3), 1);
    is("none of two", x.personIs(0, 3), 0);
    x.drop(0);
    is("one of two", x.personIs(0, 3), 0);
    x.drop(1);
    is("two of two", x.personIs(0, 3), 1);
    x.drop(2);
    is("three of two", x.personIs(0, 3), 1);
  }

  private static void piecesAndSlips() {
    says(0, "PIECES 0, 1, .. (at most 9)");
    NineBreakages x = with(4, 9);
    is("none at first", x.pieceIs(0, 0), BEYOND);
    for (int i = 0; i < 9; i++) {
      is("piece " + i, x.piece(10, 0), i);
    }
    is("a tenth", x.piece(10, 0), FULL);
    is("there is none", x.pieceIs(9, 0), BEYOND);
    says(0, "each with a number m (0 .. 9), an OWNER (one of PEOPLE), WHOLE (0, at first), BROKEN (1) or WALLED in "
        + "(2).");
    x = with(4, 9, 0, 69);
    is("least m", x.pieceIs(0, 1), 0);
    is("most m", x.pieceIs(1, 1), 9);
    is("at first", x.pieceIs(0, 3), 0);
    x.wall(0, 1);
    is("walled", x.pieceIs(0, 3), 2);
    x.drop(1);
    is("broken", x.pieceIs(1, 3), 1);
    is("owner of none", x.piece(0, 1), BEYOND);
    says(0, "SHARDS: how many PIECES are BROKEN.");
    is("walled ones are none", x.count(3), 1);
    is("none at first", with(4, 9, 0).count(3), 0);
    says(0, "SLIPS (in somebody's hands): PIECE: 10 less CARE, and m. CUP: as PIECE, and 3.");
    is("the least of a piece", with(9, 9, 0).risk(0, 0), 1);
    is("the most of a piece, held", with(0, 9, 9).risk(0, 0), 16);
    is("a piece's 16", with(0, 9, 6).risk(0, 0), 16);
    is("a piece's 15", with(0, 9, 5).risk(0, 0), 15);
    is("the least of a cup", with(9, 9, 10).risk(0, 0), 4);
    says(0, "PLATE: as PIECE, less m.");
    is("the least of a plate", with(9, 9, 39).risk(0, 0), 1);
    is("the most of a plate", with(0, 9, 39).risk(0, 0), 10);
    says(0, "BOAT: half of PIECE's (cut).");
    is("of 11", with(4, 9, 25).risk(0, 0), 5);
    is("of 1", with(9, 9, 20).risk(0, 0), 0);
    says(0, "SAUCER: as CUP, and the rest of DAY by 3.");
    x = with(9, 9, 40);
    for (int day = 0; day < 7; day++) {
      is("on day " + day, onDay(day, x).risk(0, 0), 4 + day % 3);
    }
    says(0, "TUREEN: as BOAT, and SHARDS.");
    x = with(9, 9, 59, 0, 0);
    is("no shards", x.risk(0, 0), 5);
    x.wall(1, 1);
    x.drop(2);
    is("one shard", x.risk(0, 0), 6);
    x.drop(0);
    is("its own too", x.risk(0, 0), 7);
    says(0, "JUG: 0, if CARE is above 6; else as PIECE.");
    x = with(6, 9, 65);
    is("care 6", x.risk(0, 0), 9);
    x.minds(0, 7);
    is("care 7", x.risk(0, 0), 0);
    x.minds(0, 9);
    is("care 9", x.risk(0, 0), 0);
    is("0 and no less, by a text", by(0, "r+5", x).risk(0, 0), 5);
  }

  private static void countingAndBreaking() {
    says(0, "PIECE, CUP: always.");
    is("a piece", with(4, 9, 0).pieceIs(0, 4), 1);
    is("a cup", onDay(1, with(4, 9, 19)).pieceIs(0, 4), 1);
    says(0, "BOAT: if 2 divides DAY, or m is above 4.");
    is("day 0, 4", with(4, 9, 24).pieceIs(0, 4), 1);
    is("day 1, 4", onDay(1, with(4, 9, 24)).pieceIs(0, 4), 0);
    is("day 1, 5", onDay(1, with(4, 9, 25)).pieceIs(0, 4), 1);
    is("day 9999, 4", onDay(9999, with(4, 9, 24)).pieceIs(0, 4), 0);
    says(0, "PLATE: if m is below 8.");
    is("7", with(4, 9, 37).pieceIs(0, 4), 1);
    is("8", with(4, 9, 38).pieceIs(0, 4), 0);
    is("9", with(4, 9, 39).pieceIs(0, 4), 0);
    says(0, "SAUCER: if SHARDS are above 0.");
    NineBreakages x = with(4, 9, 40, 0, 0);
    is("none", x.pieceIs(0, 4), 0);
    x.wall(1, 1);
    is("a walled one is none", x.pieceIs(0, 4), 0);
    x.drop(2);
    is("one", x.pieceIs(0, 4), 1);
    says(0, "TUREEN: as BOAT; also if DAY is above 100.");
    x = with(4, 9, 54);
    int[] days = {0, 1, 98, 99, 100, 101, 102, 103};
    int[] due = {1, 0, 1, 0, 1, 1, 1, 1};
    for (int i = 0; i < days.length; i++) {
      is("day " + days[i], onDay(days[i], x).pieceIs(0, 4), due[i]);
    }
    is("day 1, 5", onDay(1, with(4, 9, 55)).pieceIs(0, 4), 1);
    says(0, "JUG: never.");
    is("day 102, 9", onDay(102, with(4, 9, 69)).pieceIs(0, 4), 0);
    says(0, "A PIECE that is WHOLE BREAKS: if it COUNTS (as things are ahead of that), its OWNER has HAD one more "
        + "(9999 at most); it is BROKEN.");
    x = with(4, 1, 40, 40, 0);
    is("ahead of its own shard", x.drop(0), 0);
    is("nothing had", x.personIs(0, 2), 0);
    is("but broken", x.pieceIs(0, 3), 1);
    is("behind it", x.drop(1), 1);
    is("had", x.personIs(0, 2), 1);
    is("one who is through", x.drop(2), 1);
    is("has more all the same", x.personIs(0, 2), 2);
  }

  private static void daysByDraws() {
    says(0, "PIECES by numbers that are WHOLE, and whose OWNER isn't THROUGH: a draw; if its rest by 16 is below the "
        + "RISK in the hands of its OWNER, it BREAKS.");
    for (int risk = 0; risk <= 16; risk++) {
      for (int seed = -20; seed < 20; seed++) {
        NineBreakages x = by(0, "" + risk, with(4, 9, 0));
        x.seed(seed * 100003);
        int z = seed * 100003 * 1103515245 + 12345;
        is("risk " + risk + ", seed " + seed, x.loose(1), (z >>> 8) % 16 < risk ? 1 : 0);
        is("z behind it", x.count(7), z);
      }
    }
    NineBreakages x = by(0, "16", with(4, 1, 9, 9));
    is("through by the first", x.loose(30), 1);
    is("one draw", x.count(7), 1103527590);
    is("the second is whole", x.pieceIs(1, 3), 0);
    x = by(0, "0", with(4, 9, 9, 9, 9));
    x.drop(0);
    x.wall(1, 1);
    is("risk 0", x.loose(2), 0);
    is("draws for the whole one alone", x.count(7), 1103527590 * 1103515245 + 12345);
    x = by(0, "16", with(4, 9, 0));
    x.person(4, 0);
    x.lend(0, 1);
    is("an owner who is through from the first", x.loose(3), 0);
    is("no draw", x.count(7), 1);
    String sureOf14And10 = "((r=14)|(r=10))*16";
    is("a shard of the same day, ahead", by(0, sureOf14And10, with(0, 9, 4, 59)).loose(1), 2);
    is("a shard of the same day, behind", by(0, sureOf14And10, with(0, 9, 59, 4)).loose(1), 1);
    says(0, "Then DAY is 1 more.");
    x = by(0, "(d=1)*16", with(4, 9, 0, 0));
    is("none on day 0", x.loose(1), 0);
    is("both on day 1", x.loose(1), 2);
    is("day 2", x.count(2), 2);
    is("with no pieces too", new NineBreakages().loose(30), 0);
    says(0, "DRAWS: z is told (1 at first); each makes it z * 1103515245 + 12345 (an int), and gives z >>> 8.");
    x = new NineBreakages();
    is("z at first", x.count(7), 1);
    x = by(0, "8", with(4, 9, 0, 0, 0, 0, 0, 0, 0, 0, 0));
    x.seed(MAX);
    int z = MAX;
    int broke = 0;
    for (int i = 0; i < 9; i++) {
      z = z * 1103515245 + 12345;
      broke += ((z & 0xffffffffL) / 256) % 16 < 8 ? 1 : 0;
    }
    is("nine draws", x.loose(1), broke);
    is("z behind nine", x.count(7), z);
  }

  private static void fault(String text, int use, int at) {
    NineBreakages x = new NineBreakages();
    is("fault of " + text, Due.text(x, use, text), -10 - at);
    is("no text by " + text, x.untell(use), 0);
  }

  private static void reads(String text) {
    by(0, text, new NineBreakages());
  }

  private static void textsAsTold() {
    says(0, "TEXTS are read from THE TAPE (bytes, at most 60)");
    NineBreakages x = new NineBreakages();
    Due.feed(x, "1+".repeat(29) + "1");
    is("59", x.count(4), 59);
    is("two more", x.feed(0x3131, 2), FULL);
    is("one more", x.feed('1', 1), 60);
    is("none more", x.feed('1', 1), FULL);
    is("all are read", x.text(1), 1);
    is("all are worked out", x.law(1, 0, 0, 0), 40);
    says(0, "B: S, or S < S, S = S, S > S.");
    reads("1<2");
    fault("1<2<3", 0, 3);
    fault("1=2>3", 0, 3);
    reads("1<2&2<3|3=3");
    reads("(1<2)<3");
    says(0, "Q: a NUMBER of 1 to 4 digits, a NAME, ! Q, ( T ).");
    reads("0");
    reads("0000");
    reads("9999");
    fault("00000", 0, 4);
    fault("99999+1", 0, 4);
    fault("", 0, 0);
    fault("rr", 0, 1);
    fault("r1", 0, 1);
    fault("1r", 0, 1);
    fault("b", 0, 0);
    fault("p", 0, 0);
    fault("r", 1, 0);
    fault("d", 1, 0);
    fault("1!", 0, 1);
    fault("()", 0, 1);
    says(0, "No blanks.");
    fault(" 1", 0, 0);
    fault("1 ", 0, 1);
    fault("1+ 1", 0, 2);
    fault("1\n", 0, 1);
    fault("1\0", 0, 1);
    says(0, "At most 5 of ! and ( are open at once.");
    reads("!!!!!1");
    fault("!!!!!!1", 0, 5);
    fault("!!!!!(1)", 0, 5);
    reads("(((((1)))))");
    fault("((((((1))))))", 0, 5);
    fault("(((((!1)))))", 0, 5);
    reads("(!(!(1)))");
    fault("!(!(!(1)))", 0, 5);
    reads("!!!!!1+!!!!!1");
    reads("(((((1)))))*(((((1)))))");
    reads("((((!1+!1*!1))))");
    says(0, "FAULT: the place of the first byte with which no TEXT goes on; how many there are, if it ends too early.");
    fault("1+", 0, 2);
    fault("(1", 0, 2);
    fault("!", 0, 1);
    fault("(1))", 0, 3);
    fault(")", 0, 0);
    fault("1+)", 0, 2);
    fault("1+2;", 0, 3);
    fault("+1", 0, 0);
    fault("1+".repeat(30), 0, 60);
    fault("1+".repeat(29) + "1;", 0, 59);
  }

  private static void gives(int use, String text, int a, int b, int c, int want) {
    is(text + " of " + a + ", " + b + ", " + c, by(use, text, new NineBreakages()).law(use, a, b, c), want);
  }

  private static void whatTextsGive() {
    says(0, "Ints that wrap; / cut, % the rest that it leaves, both by 0 are 0; | & < = > ! are 1 or 0, what is not 0 "
        + "being true; all is worked out.");
    gives(1, "c+1=b", MAX, MIN, 0, 1);
    gives(1, "c-1=b", MIN, MAX, 0, 1);
    gives(1, "c*c+5", 65536, 0, 0, 5);
    gives(1, "c*b=c", MIN, -1, 0, 1);
    gives(1, "c/b=c", MIN, -1, 0, 1);
    gives(1, "c%b+5", MIN, -1, 0, 5);
    gives(1, "c/b+10", -7, 2, 0, 7);
    gives(1, "c/b+10", 7, -2, 0, 7);
    gives(1, "c%b+10", -7, 2, 0, 9);
    gives(1, "c%b+10", 7, -2, 0, 11);
    gives(1, "c/b+10", 7, 0, 0, 10);
    gives(1, "c%b+10", 7, 0, 0, 10);
    gives(1, "c/b+10", MIN, 0, 0, 10);
    gives(1, "c%b+10", MIN, 0, 0, 10);
    gives(1, "1%0|7/0", 0, 0, 0, 0);
    gives(1, "c<b", MIN, MAX, 0, 1);
    gives(1, "c>b", MIN, MAX, 0, 0);
    gives(1, "(c<b)+(c=b)*2+(c>b)*4", 5, 5, 0, 2);
    gives(1, "c|b", MIN, 0, 0, 1);
    gives(1, "c&b", 2, 4, 0, 1);
    gives(1, "c&b", 2, 0, 0, 0);
    gives(1, "c&b", 0, 2, 0, 0);
    gives(1, "c&b", 0, 0, 0, 0);
    gives(1, "c&b", 1, 1, 0, 1);
    gives(1, "c&b", -1, MIN, 0, 1);
    gives(1, "c|b", 0, -1, 0, 1);
    gives(1, "c|b", -1, 1, 0, 1);
    gives(1, "(c|b)+5", 0, 0, 0, 5);
    gives(1, "(c|b)+5", 9, 7, 0, 6);
    gives(1, "(c&b)+5", 9, 0, 0, 5);
    gives(1, "(c&b)+5", 9, 7, 0, 6);
    gives(1, "(c<b)+(c=b)+(c>b)+!c+5", 5, 5, 0, 6);
    gives(1, "(c<b)+(c=b)+(c>b)+!c+5", 5, 4, 0, 6);
    gives(1, "(c<b)+(c=b)+(c>b)+!c+5", 4, 5, 0, 6);
    gives(1, "!c", MIN, 0, 0, 0);
    gives(1, "!c", 0, 0, 0, 1);
    says(0, "0 RISK: NAMES r how it SLIPS, c CARE, d the rest of DAY by 7; held within 0 .. 16; without a TEXT r (held "
        + "likewise).");
    gives(0, "r", 16, 0, 0, 16);
    gives(0, "r", 17, 0, 0, 16);
    gives(0, "r", 0, 0, 0, 0);
    gives(0, "r", -1, 0, 0, 0);
    NineBreakages x = with(0, 9, 9);
    is("without a text, 19", x.risk(0, 0), 16);
    is("without a text, 16", x.law(0, 16, 0, 0), 16);
    is("without a text, 17", x.law(0, 17, 0, 0), 16);
    is("without a text, -1", x.law(0, -1, 0, 0), 0);
    by(0, "r/2", x);
    is("what it slips is not held", x.risk(0, 0), 9);
    by(0, "d", x);
    is("day 6", onDay(6, x).risk(0, 0), 6);
    is("day 7", onDay(7, x).risk(0, 0), 0);
    says(0, "1 YEARS: NAMES c how many are TOLD less how many one has HAD (0 at least), b SHARDS, p the number of that "
        + "one; held within 0 .. 199; without a TEXT 10*c (ints that wrap; held likewise).");
    x = with(4, 1, 0, 0);
    is("one", x.personIs(0, 4), 10);
    x.drop(0);
    is("none", x.personIs(0, 4), 0);
    x.drop(1);
    by(1, "c+7", x);
    is("0 at least", x.personIs(0, 4), 7);
    gives(1, "c", 199, 0, 0, 199);
    gives(1, "c", 200, 0, 0, 199);
    gives(1, "c", -1, 0, 0, 0);
    x = new NineBreakages();
    is("without a text, 19", x.law(1, 19, 0, 0), 190);
    is("without a text, 20", x.law(1, 20, 0, 0), 199);
    is("without a text, -1", x.law(1, -1, 0, 0), 0);
    is("10*c wraps to 4", x.law(1, 429496730, 0, 0), 4);
    is("10*c wraps to -10", x.law(1, MAX, 0, 0), 0);
    is("10*c wraps to 0", x.law(1, MIN, 0, 0), 0);
    is("10*c wraps up", x.law(1, -429496729, 0, 0), 6);
  }

  private static void odds(NineBreakages x, int n, long above, long below) {
    is("odds of " + n + ", above", x.odds(0, n, 0), above);
    is("odds of " + n + ", below", x.odds(0, n, 1), below);
  }

  private static void out(NineBreakages x, long above, long below) {
    is("out, above", x.through(0, 0), above);
    is("out, below", x.through(0, 1), below);
  }

  private static void leftAndOdds() {
    says(0, "LEFT of one: PIECES of one that are WHOLE, and COUNT now.");
    NineBreakages x = with(4, 9, 0, 0, 0, 38, 40);
    is("but the plate and the saucer", x.left(0, 0), 0b00111);
    x.wall(0, 1);
    is("but the walled one", x.left(0, 0), 0b00110);
    x.drop(1);
    is("but the broken one, and the saucer", x.left(0, 0), 0b10100);
    x.person(4, 9);
    x.lend(2, 1);
    is("but the lent one", x.left(0, 0), 0b10000);
    is("the other's", x.left(1, 0), 0b00100);
    is("of nobody's", new NineBreakages().left(0, 0), BEYOND);
    says(0, "ODDS of one, n: that in a DAY just n of those LEFT BREAK, each by its RISK in one's hands now, each by "
        + "itself.");
    x = with(4, 9);
    odds(x, 0, 1, 1);
    odds(x, 1, 0, 1);
    x = by(0, "8", with(4, 9, 0, 0, 0, 0, 0, 0, 0, 0, 0));
    odds(x, 9, 1, 512);
    for (int i = 8; i > 0; i--) {
      x.wall(i, 1);
    }
    odds(x, 0, 1, 2);
    odds(x, 1, 1, 2);
    for (int n = 2; n <= 9; n++) {
      odds(x, n, 0, 1);
    }
    x = by(0, "c", with(9, 9, 0));
    x.person(3, 9);
    x.lend(0, 1);
    is("the risk in one's own hands", x.odds(1, 1, 0), 3);
    says(0, "OUT of one: that one is THROUGH then.");
    out(with(4, 0), 1, 1);
    out(with(4, 1), 0, 1);
    x = by(0, "8", with(4, 1, 0, 0));
    out(x, 3, 4);
    x.drop(0);
    out(x, 1, 1);
    x.drop(1);
    out(x, 1, 1);
    out(by(0, "8", with(4, 9, 0, 0, 0, 0, 0, 0, 0, 0, 0)), 1, 512);
    out(by(0, "8", with(4, 9, 0, 0, 0, 0, 0, 0, 0, 0)), 0, 1);
    says(0, "(Fractions in lowest terms; 0 is 0 by 1.)");
    odds(by(0, "4", with(4, 9, 0)), 1, 1, 4);
    odds(by(0, "12", with(4, 9, 0)), 1, 3, 4);
    odds(by(0, "16", with(4, 9, 0)), 1, 1, 1);
    odds(by(0, "16", with(4, 9, 0)), 0, 0, 1);
    odds(by(0, "0", with(4, 9, 0)), 1, 0, 1);
    odds(by(0, "0", with(4, 9, 0)), 0, 1, 1);
    x = by(0, "1", with(4, 9, 0, 0, 0, 0, 0, 0, 0, 0, 0));
    odds(x, 9, 1, 68719476736L);
    odds(x, 0, 38443359375L, 68719476736L);
    x = by(0, "15", with(4, 9, 0, 0, 0, 0, 0, 0, 0, 0, 0));
    odds(x, 9, 38443359375L, 68719476736L);
    out(x, 38443359375L, 68719476736L);
    out(by(0, "15", with(4, 1, 0, 0, 0, 0, 0, 0, 0, 0, 0)), 68719476735L, 68719476736L);
  }

  private static NineBreakages twoOfCare(int first, int second) {
    NineBreakages x = with(first, 9, 0);
    x.person(second, 9);
    return x;
  }

  private static void safestAndSaves() {
    says(0, "SAFEST for a PIECE: in whose hands its RISK is least now; of several the least; how much.");
    NineBreakages x = with(0, 9, 9);
    is("one alone", x.safest(0, 0), 0);
    is("the first of two", twoOfCare(9, 0).safest(0, 0), 0);
    is("the second of two", twoOfCare(0, 9).safest(0, 0), 1);
    is("the first of two alike", twoOfCare(5, 5).safest(0, 0), 0);
    is("how much", x.safest(0, 1), 16);
    for (int care : new int[] {0, 3, 3, 9}) {
      x.person(care, 0);
    }
    is("all by far", x.safest(0, 0), 4);
    x.lend(0, 4);
    is("its owner too", x.safest(0, 0), 4);
    x.minds(4, 3);
    is("both 16 and held", x.risk(0, 2), 16);
    is("all alike", x.safest(0, 0), 0);
    x.become(0, 0);
    is("three alike", x.safest(0, 0), 2);
    is("7", x.safest(0, 1), 7);
    says(0, "SAVES of one who isn't THROUGH: the fewest of those LEFT that are to be WALLED in so that those that stay "
        + "are less than what is TOLD and not HAD yet; of several sets the least (bits).");
    x = with(4, 1, 69, 0, 0);
    is("to come 1, left 2", x.saves(0, 0), 2);
    is("both", x.saves(0, 1), 0b110);
    x = with(4, 2, 69, 0, 0);
    is("to come 2, left 2", x.saves(0, 0), 1);
    is("the least", x.saves(0, 1), 0b010);
    x = with(4, 3, 69, 0, 0);
    is("to come 3, left 2", x.saves(0, 0), 0);
    is("none", x.saves(0, 1), 0);
    is("nothing left", with(4, 9).saves(0, 0), 0);
    is("all nine", with(4, 1, 0, 0, 0, 0, 0, 0, 0, 0, 0).saves(0, 1), 511);
    is("one of nine", with(4, 9, 0, 0, 0, 0, 0, 0, 0, 0, 0).saves(0, 1), 1);
    x = with(4, 2, 0, 0, 0);
    x.drop(0);
    is("what is had is not to come", x.saves(0, 1), 0b110);
    x.drop(1);
    is("one who is through", x.saves(0, 1), STATE);
    is("none told", with(4, 0).saves(0, 0), STATE);
  }

  private static void firstAndFits() {
    says(0, "FIRST of a PIECE: behind how many DAYS (0 .. 60; all else as it is) it first COUNTS.");
    NineBreakages x = with(4, 9, 24, 54, 40, 39, 60, 0);
    is("a boat now", x.counts(0), 0);
    onDay(1, x);
    is("a boat behind a day", x.counts(0), 1);
    is("a tureen behind a day", x.counts(1), 1);
    is("a saucer without shards", x.counts(2), NONE);
    is("a plate of 9", x.counts(3), NONE);
    is("a jug", x.counts(4), NONE);
    x.drop(5);
    is("a saucer now", x.counts(2), 0);
    is("a broken one as it is", x.counts(5), 0);
    onDay(99, x);
    is("a tureen on 99", x.counts(1), 1);
    onDay(101, x);
    is("a tureen on 101", x.counts(1), 0);
    onDay(9999, x);
    is("only thought: a boat on 9999", x.counts(0), 1);
    says(0, "FITS of one: a SHEET tells RISKS of PIECES 0, 1, .. in one's hands: with how much CARE (0 .. 9) that is "
        + "so, as a set; the least.");
    x = with(4, 9, 0, 69);
    x.sheet(0, 8, 0);
    is("no numbers", x.fits(0, 0, 0), 1023);
    is("the least of all", x.fits(0, 0, 1), 0);
    x.sheet(0, 8, 1);
    x.put(0, 0, 10);
    is("care 0", x.fits(0, 0, 0), 1);
    is("it is the least", x.fits(0, 0, 1), 0);
    x.put(0, 0, 1);
    is("care 9", x.fits(0, 0, 0), 512);
    is("9 is the least", x.fits(0, 0, 1), 9);
    x.put(0, 0, 11);
    is("no care", x.fits(0, 0, 0), 0);
    is("no least", x.fits(0, 0, 1), NONE);
    x.sheet(0, 8, 2);
    x.put(0, 0, 3);
    is("care 7, and a jug", x.fits(0, 0, 0), 128);
    x.person(0, 0);
    is("in another's hands as well", x.fits(0, 1, 0), 128);
    x.lend(1, 1);
    is("whose they are is all one", x.fits(0, 0, 0), 128);
    x.put(0, 1, 1);
    is("not the jug", x.fits(0, 0, 0), 0);
    x.sheet(0, 8, 3);
    x.put(0, 0, 3);
    is("a number that tells of no piece", x.fits(0, 0, 0), 0);
    x.put(0, 2, 3);
    is("whatever it is", x.fits(0, 0, 0), 0);
  }

  private static long cut(long x, long by) {
    return (int) (x / by);
  }

  private static NineBreakages speaker(int piece, int km) {
    NineBreakages x = with(4, 9, 0, 0, 0, 0, 0, 0, 0, 0, 0);
    x.become(piece, km);
    return x;
  }

  private static void voicesThatWrap() {
    says(0, "VOICES of a PIECE, with a number x (ints that wrap)");
    is("x + k", speaker(8, 0).voice(8, 0, MAX), MIN + 7);
    is("rings(x) * 2", speaker(0, 0).voice(0, 1, 0x40000000), MIN);
    is("rings(x) * 2 to 0", speaker(0, 0).voice(0, 1, MIN), 0);
    is("slips(x) - m", speaker(0, 9).voice(0, 2, 0x40000000), MAX - 8);
    is("super.rings(x) - 4", speaker(0, 10).voice(0, 0, MIN), MAX - 3);
    is("super.rings(x) * 3", speaker(0, 40).voice(0, 0, MIN + 4), MIN);
    is("0 - super.slips(x)", speaker(0, 20).voice(0, 1, 0x40000000), MIN);
    is("super.slips(x + 1)", speaker(0, 50).voice(0, 1, MAX), 0);
    is("super.cracks(x / 2)", speaker(0, 30).voice(0, 2, MIN), MIN);
    is("super.cracks(x) ^ k", speaker(3, 41).voice(3, 2, MAX), (int) (((long) MAX + 3 - 4) * 3 * 2 - 1) ^ 3);
    is("super.slips(x) + m", speaker(0, 69).voice(0, 1, MIN), 27);
    is("rings: 9", speaker(8, 69).voice(8, 0, MAX), 9);
    is("x by -1", speaker(1, 0).voice(1, 3, MIN), MIN);
    is("super.parts(x) + slips(1)", speaker(1, 10).voice(1, 3, MIN), MAX - 3);
    says(0, "13 parts: x by (m - k), cut");
    for (int v : new int[] {7, -7, 1, -1, 0, MIN, MAX}) {
      is("by 2 " + v, speaker(0, 2).voice(0, 3, v), cut(v, 2));
      is("by -2 " + v, speaker(3, 1).voice(3, 3, v), cut(v, -2));
    }
    says(0, "Plate: 40 cracks: super.cracks(x / 2).");
    is("-1 by 2", speaker(0, 30).voice(0, 2, -1), 0);
    is("-3 by 2", speaker(0, 30).voice(0, 2, -3), -2);
    is("3 by 2", speaker(0, 30).voice(0, 2, 3), 2);
  }

  private static void voicesThatPart() {
    says(0, "(PARTED if that is 0; that is all that voice() answers then)");
    NineBreakages x = with(4, 9, 0, 11, 22, 33, 44, 55, 66, 17, 8);
    for (int piece = 0; piece < 7; piece++) {
      for (int v : new int[] {0, 7, -1, MIN, MAX}) {
        is("kind " + piece + " of " + v, x.voice(piece, 3, v), PARTED);
      }
      is("others don't", x.voice(piece, 2, 7) == PARTED ? 1 : 0, 0);
    }
    is("told", x.told(6), 35);
    for (int piece = 0; piece < 7; piece++) {
      x.become(piece, 10 * piece + (piece + 1) % 10);
      is("by 1, kind " + piece, x.voice(piece, 3, MIN) == PARTED ? 1 : 0, 0);
    }
    is("a cup of 7", x.voice(7, 3, MIN), PARTED);
    is("a piece of 8", x.voice(8, 3, MIN), PARTED);
  }

  private static void bodies(NineBreakages x, int... want) {
    is("how many", x.count(6), want.length);
    for (int i = 0; i < want.length; i++) {
      is("body " + i, x.body(i), want[i]);
    }
    is("no more", x.body(want.length), NONE);
  }

  /** The BODIES of a PIECE of a KIND that rings, slips, cracks and parts. */
  private static void said(int kind, int[] rings, int[] slips, int[] cracks, int[] parts) {
    NineBreakages x = with(4, 9, 10 * kind + 1);
    int[][] want = {rings, slips, cracks, parts};
    for (int voice = 0; voice < 4; voice++) {
      x.voice(0, voice, 5);
      bodies(x, want[voice]);
    }
  }

  private static int[] trace(int... numbers) {
    return numbers;
  }

  private static void bodiesOfEachKind() {
    says(0, "rings(..) is the BODY of its KIND, or of the next KIND above that has one; super.rings(..) that from the "
        + "KIND above the BODY's on.");
    said(0, trace(10), trace(11, 10), trace(12, 11, 10), trace(13));
    said(1, trace(20, 10), trace(11, 20, 10), trace(12, 11, 20, 10), trace(21, 13, 11, 20, 10));
    said(2, trace(10), trace(30, 11, 10), trace(12, 30, 11, 10), trace(13));
    said(3, trace(10), trace(11, 10), trace(40, 12, 11, 10), trace(13));
    said(4, trace(50, 20, 10), trace(11, 50, 20, 10), trace(51, 12, 11, 50, 20, 10), trace(21, 13, 11, 50, 20, 10));
    said(5, trace(10), trace(60, 30, 11, 10), trace(12, 60, 30, 11, 10), trace(13));
    said(6, trace(70), trace(71, 11, 70), trace(12, 71, 11, 70), trace(13));
  }

  private static void traceAndSheets() {
    says(0, "THE TRACE: the numbers of BODIES of the latest voice(), as they began (what stands left is worked out "
        + "first), the first 30.");
    NineBreakages x = with(4, 9, 2, 49);
    bodies(x);
    x.voice(1, 3, 5);
    bodies(x, 21, 13, 11, 50, 20, 10);
    x.voice(1, 2, 5);
    bodies(x, 51, 12, 11, 50, 20, 10);
    x.voice(0, 0, 5);
    bodies(x, 10);
    says(0, "SHEETS 0 .. 3 are rows of 8, 16, 32 bits, at most 24 numbers, or missing (as at first).");
    x = with(4, 9);
    for (int sheet = 0; sheet < 4; sheet++) {
      is("at first " + sheet, x.cares(sheet), NONE);
      is("there " + sheet, x.sheet(sheet, 8 << sheet % 3, 24), 1);
      is("the last number " + sheet, x.put(sheet, 23, 1), 1);
      is("none behind it " + sheet, x.put(sheet, 24, 1), BEYOND);
      is("too many " + sheet, x.sheet(sheet, 8, 25), BEYOND);
    }
    is("no sheet 4", x.sheet(4, 8, 1), BEYOND);
    is("no sheet -1", x.sheet(-1, 8, 1), BEYOND);
    for (int bits : new int[] {-8, 1, 7, 9, 15, 17, 24, 31, 33, 64}) {
      is("no bits " + bits, x.sheet(0, bits, 1), BEYOND);
    }
  }

  // ---- Promises

  private static void promises1To5() {
    says(1, "All as at first; no PIECES, no PEOPLE, no TEXTS.");
    NineBreakages x = new NineBreakages();
    for (int what = 0; what < 8; what++) {
      is("count " + what, x.count(what), what == 7 ? 1 : 0);
    }
    is("no text of risk", x.untell(0), 0);
    is("no text of years", x.untell(1), 0);
    is("no image", x.restore(), NONE);
    says(2, "One of PEOPLE more: the number. BEYOND. FULL.");
    for (int i = 0; i < 5; i++) {
      is("person " + i, x.person(9 - i, i), i);
    }
    is("too much care", x.person(10, 0), BEYOND);
    is("too many told", x.person(0, 10), BEYOND);
    is("too many", x.person(9, 9), FULL);
    is("five", x.count(1), 5);
    says(3, "0 CARE, 1 TOLD, 2 HAD, 3 whether THROUGH (1, 0), 4 YEARS. BEYOND.");
    for (int v : new int[] {-1, 5, MIN, MAX}) {
      is("what " + v, x.personIs(0, v), BEYOND);
      is("person " + v, x.personIs(v, 0), BEYOND);
    }
    is("the last person", x.personIs(4, 1), 4);
    is("the last what", x.personIs(4, 4), 40);
    says(4, "One more PIECE (km: 10 times the KIND, and m): the number. BEYOND. FULL.");
    is("km below", x.piece(-1, 0), BEYOND);
    is("km above", x.piece(70, 0), BEYOND);
    is("owner below", x.piece(0, -1), BEYOND);
    is("owner above", x.piece(0, 5), BEYOND);
    is("the least", x.piece(0, 0), 0);
    is("the most", x.piece(69, 4), 1);
    is("its kind", x.pieceIs(1, 0), 6);
    is("its m", x.pieceIs(1, 1), 9);
    is("its owner", x.pieceIs(1, 2), 4);
    for (int i = 2; i < 9; i++) {
      is("piece " + i, x.piece(10, 0), i);
    }
    is("too many", x.piece(10, 0), FULL);
    says(5, "5 RISK in the hands of its OWNER. BEYOND.");
    for (int v : new int[] {-1, 6, MIN, MAX}) {
      is("what " + v, x.pieceIs(0, v), BEYOND);
    }
    for (int v : new int[] {-1, 9, MIN, MAX}) {
      is("piece " + v, x.pieceIs(v, 0), BEYOND);
    }
    is("the last piece", x.pieceIs(8, 0), 1);
  }

  private static void promises6To12() {
    NineBreakages x = with(4, 3, 0, 40, 23);
    says(6, "A PIECE becomes one of a KIND, with m (km): the KIND that it was. BEYOND.");
    is("km below", x.become(0, -1), BEYOND);
    is("km above", x.become(0, 70), BEYOND);
    is("the most", x.become(0, 69), 0);
    is("the least", x.become(0, 0), 6);
    is("no piece", x.become(3, 0), BEYOND);
    x.wall(0, 1);
    x.become(0, 0);
    is("walled as it was", x.wall(0, 0), 1);
    NineBreakages shard = with(4, 3, 0);
    shard.drop(0);
    is("a broken one", shard.become(0, 40), 0);
    is("broken as it was", shard.count(3), 1);
    says(7, "A PIECE as one of a KIND: m. BEYOND. KIND: it isn't of that KIND, nor of one under it.");
    is("of that kind", x.as(1, 4), 0);
    is("of one under it", x.as(1, 1), 0);
    is("of one under one under it", x.as(1, 0), 0);
    is("a piece is no saucer", x.as(0, 4), KIND);
    is("a saucer is no boat", x.as(1, 2), KIND);
    is("a boat is no tureen", x.as(2, 5), KIND);
    is("kind below", x.as(0, -1), BEYOND);
    is("the last kind", x.as(0, 6), KIND);
    is("kind above", x.as(0, 7), BEYOND);
    is("no piece", x.as(3, 0), BEYOND);
    says(8, "CARE of one becomes so: what it was. BEYOND.");
    is("the least", x.minds(0, 0), 4);
    is("the most", x.minds(0, 9), 0);
    is("below", x.minds(0, -1), BEYOND);
    is("above", x.minds(0, 10), BEYOND);
    is("nobody", x.minds(1, 0), BEYOND);
    is("still the most", x.minds(0, 4), 9);
    says(9, "A PIECE has another OWNER: which it had. BEYOND.");
    x.person(4, 3);
    is("to 1", x.lend(0, 1), 0);
    is("to 1 again", x.lend(0, 1), 1);
    is("to nobody", x.lend(0, 2), BEYOND);
    is("to -1", x.lend(0, -1), BEYOND);
    is("no piece", x.lend(3, 0), BEYOND);
    is("still 1's", x.pieceIs(0, 2), 1);
    says(10, "A PIECE is WALLED in (1), or WHOLE and out (0): whether it was WALLED (1, 0). BEYOND. STATE: it is "
        + "BROKEN.");
    is("out and was", x.wall(0, 0), 0);
    is("in", x.wall(0, 1), 0);
    is("in and was", x.wall(0, 1), 1);
    is("out", x.wall(0, 0), 1);
    is("2", x.wall(0, 2), BEYOND);
    is("-1", x.wall(0, -1), BEYOND);
    is("no piece", x.wall(3, 0), BEYOND);
    x.drop(0);
    is("broken, in", x.wall(0, 1), STATE);
    is("broken, out", x.wall(0, 0), STATE);
    is("broken still", x.pieceIs(0, 3), 1);
    says(11, "RISK of a PIECE in somebody's hands now. BEYOND.");
    is("of a broken one", x.risk(0, 0), 6);
    is("no piece", x.risk(3, 0), BEYOND);
    is("nobody", x.risk(0, 2), BEYOND);
    is("piece -1", x.risk(-1, 0), BEYOND);
    is("person -1", x.risk(0, -1), BEYOND);
    says(12, "A PIECE BREAKS: whether it COUNTED (1, 0). BEYOND. STATE: it isn't WHOLE.");
    is("broken", x.drop(0), STATE);
    x.wall(1, 1);
    is("walled", x.drop(1), STATE);
    x.wall(1, 0);
    is("a saucer behind a shard", x.drop(1), 1);
    is("no piece", x.drop(3), BEYOND);
    is("-1", x.drop(-1), BEYOND);
  }

  private static void promises13To16() {
    NineBreakages x = new NineBreakages();
    says(13, "The n lowest bytes (1 .. 8) of a word, the lowest first, come to THE TAPE: how many there are. BEYOND. "
        + "FULL.");
    is("0", x.feed('1', 0), BEYOND);
    is("9", x.feed('1', 9), BEYOND);
    is("-1", x.feed('1', -1), BEYOND);
    is("1", x.feed(0x7777777777777731L, 1), 1);
    is("8", x.feed(0x312b312b312b312bL, 8), 9);
    is("1+1+1+1+1", x.text(1), 1);
    is("is 5", x.law(1, 0, 0, 0), 5);
    is("a highest byte above 127", x.feed(0xb1312b312b312b31L, 8), 8);
    is("is no digit, at 7", x.text(1), -17);
    is("all bits", x.feed(-1L, 1), 1);
    is("are no digit", x.text(1), -10);
    Due.feed(x, "1".repeat(53));
    is("8 on 53", x.feed(0, 8), FULL);
    is("7 on 53", x.feed(0, 7), 60);
    is("1 on 60", x.feed(0, 1), FULL);
    says(14, "THE TAPE, which is empty then, is the TEXT of a USE (0, 1), in place of one ahead: 1. BEYOND (THE TAPE "
        + "stays).");
    x = new NineBreakages();
    Due.feed(x, "r+1");
    is("use -1", x.text(-1), BEYOND);
    is("use 2", x.text(2), BEYOND);
    is("the tape stays", x.count(4), 3);
    is("use 0", x.text(0), 1);
    is("it is empty", x.count(4), 0);
    is("in place", by(0, "r+2", x).law(0, 1, 0, 0), 3);
    says(14, "-10 less the FAULT (no ERROR; the one ahead stays; THE TAPE is empty, too).");
    is("an empty one", x.text(0), -10);
    is("the one ahead stays", x.law(0, 1, 0, 0), 3);
    is("a fault at the end", Due.text(x, 0, "9+"), -12);
    is("the tape is empty", x.count(4), 0);
    is("the one ahead stays still", x.law(0, 1, 0, 0), 3);
    is("the farthest fault", Due.text(x, 0, "1+".repeat(30)), -70);
    is("the tape is empty again", x.count(4), 0);
    is("no error", x.told(1), 2);
    is("a fault with no text ahead", Due.text(x, 1, "r"), -10);
    is("leaves none", x.untell(1), 0);
    says(15, "There is no TEXT of a USE any more: 1 if there was, else 0. BEYOND.");
    is("there was", x.untell(0), 1);
    is("there was not", x.untell(0), 0);
    is("as without", x.law(0, 1, 0, 0), 1);
    is("-1", x.untell(-1), BEYOND);
    is("2", x.untell(2), BEYOND);
    says(16, "What a USE gives with its NAMES in order as a, b, c (any number). BEYOND.");
    by(1, "(c<b)+(b<p)*2", x);
    is("any", x.law(1, MIN, 0, MAX), 3);
    is("any other way", x.law(1, MAX, 0, MIN), 0);
    is("-1", x.law(-1, 0, 0, 0), BEYOND);
    is("2", x.law(2, 0, 0, 0), BEYOND);
  }

  private static void promises17To19() {
    NineBreakages x = with(0, 9, 9);
    says(17, "n (1 .. 60) DAYS go by (nothing BREAKS): DAY. BEYOND. STATE: it would be above 9999.");
    is("0", x.days(0), BEYOND);
    is("-1", x.days(-1), BEYOND);
    is("61", x.days(61), BEYOND);
    is("MAX", x.days(MAX), BEYOND);
    is("1", x.days(1), 1);
    is("60", x.days(60), 61);
    is("nothing breaks", x.count(3), 0);
    onDay(9940, x);
    is("60 from 9940", x.days(60), STATE);
    is("59 from 9940", x.days(59), 9999);
    is("1 from 9999", x.days(1), STATE);
    says(18, "n (1 .. 30) DAYS BY DRAWS: how many BROKE. BEYOND. STATE: DAY would be above 9999.");
    x = by(0, "16", with(0, 9, 0, 0, 0));
    is("0", x.loose(0), BEYOND);
    is("-1", x.loose(-1), BEYOND);
    is("31", x.loose(31), BEYOND);
    is("MAX", x.loose(MAX), BEYOND);
    onDay(9970, x);
    is("30 from 9970", x.loose(30), STATE);
    is("nothing broke", x.count(3), 0);
    is("29 from 9970", x.loose(29), 3);
    is("9999", x.count(2), 9999);
    is("1 from 9999", x.loose(1), STATE);
    x = with(0, 9, 0);
    x.loose(30);
    is("30 from 0", x.count(2), 30);
    says(19, "z becomes v: what it was (any number).");
    x = new NineBreakages();
    is("MIN", x.seed(MIN), 1);
    is("MAX", x.seed(MAX), MIN);
    is("like an ERROR", x.seed(BEYOND), MAX);
    is("0", x.seed(0), BEYOND);
    is("no ERROR", x.told(1), 0);
    is("it is 0", x.count(7), 0);
  }

  private static void promises20To26() {
    NineBreakages x = with(4, 1, 0, 0);
    says(20, "LEFT: what 0 the set, 1 how many, 2 how many are TOLD less how many one has HAD (0 at least). BEYOND.");
    is("what -1", x.left(0, -1), BEYOND);
    is("what 3", x.left(0, 3), BEYOND);
    is("nobody", x.left(1, 0), BEYOND);
    is("to come", x.left(0, 2), 1);
    x.drop(0);
    is("none to come", x.left(0, 2), 0);
    x.drop(1);
    is("0 at least", x.left(0, 2), 0);
    is("no set", x.left(0, 0), 0);
    is("none left", x.left(0, 1), 0);
    is("all nine", with(4, 1, 0, 0, 0, 0, 0, 0, 0, 0, 0).left(0, 0), 511);
    says(21, "ODDS, for n (0 .. 9): part 0 above, 1 below the line. BEYOND.");
    is("n -1", x.odds(0, -1, 0), BEYOND);
    is("n 10", x.odds(0, 10, 0), BEYOND);
    is("n 9", x.odds(0, 9, 1), 1);
    is("part -1", x.odds(0, 0, -1), BEYOND);
    is("part 2", x.odds(0, 0, 2), BEYOND);
    is("nobody", x.odds(1, 0, 0), BEYOND);
    says(22, "OUT: part 0 above, 1 below the line. BEYOND.");
    is("part -1", x.through(0, -1), BEYOND);
    is("part 2", x.through(0, 2), BEYOND);
    is("nobody", x.through(1, 0), BEYOND);
    is("-1", x.through(-1, 0), BEYOND);
    says(23, "SAFEST: what 0 who, 1 the RISK. BEYOND.");
    is("what -1", x.safest(0, -1), BEYOND);
    is("what 2", x.safest(0, 2), BEYOND);
    is("no piece", x.safest(2, 0), BEYOND);
    is("-1", x.safest(-1, 0), BEYOND);
    is("of a broken one", x.safest(0, 1), 6);
    says(24, "SAVES: what 0 how many, 1 the set. BEYOND. STATE: one is THROUGH.");
    is("what -1", x.saves(0, -1), BEYOND);
    is("what 2", x.saves(0, 2), BEYOND);
    is("nobody", x.saves(1, 0), BEYOND);
    is("through", x.saves(0, 0), STATE);
    is("through, the set", x.saves(0, 1), STATE);
    says(25, "FIRST. BEYOND. NONE: not by 60.");
    is("no piece", x.counts(2), BEYOND);
    is("-1", x.counts(-1), BEYOND);
    x.become(0, 69);
    is("a jug", x.counts(0), NONE);
    says(26, "FITS, by a SHEET: what 0 the set, 1 the least. BEYOND. NONE: the SHEET is missing; (what 1) there is "
        + "none.");
    is("sheet -1", x.fits(-1, 0, 0), BEYOND);
    is("sheet 4", x.fits(4, 0, 0), BEYOND);
    is("nobody", x.fits(0, 1, 0), BEYOND);
    is("what -1", x.fits(0, 0, -1), BEYOND);
    is("what 2", x.fits(0, 0, 2), BEYOND);
    is("missing", x.fits(3, 0, 0), NONE);
    is("missing, what 1", x.fits(3, 0, 1), NONE);
    x.sheet(3, 32, 2);
    is("no set", x.fits(3, 0, 0), 0);
    is("no least", x.fits(3, 0, 1), NONE);
  }

  private static void promises27To30() {
    NineBreakages x = with(4, 1, 0, 0);
    says(27, "A VOICE of a PIECE: any number. BEYOND. PARTED.");
    is("like an ERROR", x.voice(0, 0, BEYOND), BEYOND);
    is("like PARTED", x.voice(0, 0, PARTED), PARTED);
    is("no ERROR", x.told(1) + x.told(6), 0);
    is("voice -1", x.voice(0, -1, 0), BEYOND);
    is("voice 4", x.voice(0, 4, 0), BEYOND);
    is("no piece", x.voice(2, 0, 0), BEYOND);
    is("-1", x.voice(-1, 0, 0), BEYOND);
    is("parted", x.voice(0, 3, 0), PARTED);
    is("ERRORS", x.told(1) * 10 + x.told(6), 41);
    says(28, "THE TRACE's i-th. NONE: there is none such.");
    is("ahead of any voice", new NineBreakages().body(0), NONE);
    x.voice(0, 1, 0);
    is("the first", x.body(0), 11);
    is("the last", x.body(1), 10);
    for (int v : new int[] {-1, 2, 29, 30, 31, MIN, MAX}) {
      is("body " + v, x.body(v), NONE);
    }
    says(29, "A SHEET has n numbers, all 0, of so many bits (8, 16, 32; 0: it is missing, n doesn't matter): 1. "
        + "BEYOND. "
        + "STATE: n is below 0 (ahead of BEYOND of n).");
    for (int bits : new int[] {8, 16, 32}) {
      is("none of " + bits, x.sheet(0, bits, 0), 1);
      is("there is no first", x.put(0, 0, 1), BEYOND);
      is("24 of " + bits, x.sheet(0, bits, 24), 1);
      is("25 of " + bits, x.sheet(0, bits, 25), BEYOND);
      is("-1 of " + bits, x.sheet(0, bits, -1), STATE);
      is("MIN of " + bits, x.sheet(0, bits, MIN), STATE);
      is("MAX of " + bits, x.sheet(0, bits, MAX), BEYOND);
      is("24 still", x.put(0, 23, 1), 1);
    }
    x.put(0, 0, 1);
    x.sheet(0, 32, 2);
    is("all 0 anew", x.judge(0), 2);
    for (int n : new int[] {-1, 25, MIN, MAX}) {
      x.sheet(0, 8, 2);
      is("missing by " + n, x.sheet(0, 0, n), 1);
      is("it is", x.judge(0), NONE);
    }
    says(30, "Number i of a SHEET becomes v (its lowest bits): 1. BEYOND: no such SHEET. NONE: it is missing. "
        + "BEYOND: no "
        + "such number.");
    is("sheet -1", x.put(-1, 0, 0), BEYOND);
    is("sheet 4", x.put(4, 0, 0), BEYOND);
    is("missing", x.put(0, 0, 0), NONE);
    for (int bits : new int[] {8, 16, 32}) {
      x.sheet(0, bits, 2);
      is("i -1", x.put(0, -1, 7), BEYOND);
      is("i 2", x.put(0, 2, 7), BEYOND);
      is("i 1", x.put(0, 1, 7), 1);
      is("v of more bits", x.put(0, 0, bits == 32 ? 5 : (1 << bits) + 5), 1);
      is("v of all bits", x.put(0, 0, bits == 32 ? 5 : -(1 << bits) + 5), 1);
      is("is 5", x.cares(0) * 10 + x.personIs(0, 0), 15);
      is("v of the highest bit", x.put(0, 0, 1 << bits - 1), 1);
      is("is none of 0 to 9", x.cares(0), 0);
    }
  }

  private static void promise31() {
    says(31, "n numbers of a SHEET, from number i on, come to another one (or the same), from its number j on, as they "
        + "all were: n.");
    NineBreakages x = with(0, 9, 0, 0, 0);
    x.person(0, 9);
    x.person(0, 9);
    x.person(0, 9);
    x.sheet(0, 8, 4);
    row(x, 0, 1, 2, 3, 4);
    is("up", x.move(0, 0, 0, 1, 3), 3);
    is("up, as they were", read(x, 0, 4), 1123);
    row(x, 0, 1, 2, 3, 4);
    is("down", x.move(0, 1, 0, 0, 3), 3);
    is("down, as they were", read(x, 0, 4), 2344);
    is("onto themselves", x.move(0, 0, 0, 0, 4), 4);
    is("unchanged", read(x, 0, 4), 2344);
    x.sheet(1, 8, 3);
    is("to another", x.move(0, 1, 1, 0, 3), 3);
    is("another", read(x, 1, 3), 344);
    is("none", x.move(0, 0, 1, 0, 0), 0);
    is("none from the end to the end", x.move(0, 4, 1, 3, 0), 0);
    is("another unchanged", read(x, 1, 3), 344);
    says(31, "BEYOND: no such SHEET. NONE: one is missing. KIND: they are of unlike bits. BEYOND: n, i, or j is "
        + "below 0, "
        + "or they don't stand there.");
    is("sheet -1", x.move(-1, 0, 0, 0, 1), BEYOND);
    is("sheet 4", x.move(4, 0, 0, 0, 1), BEYOND);
    is("other -1", x.move(0, 0, -1, 0, 1), BEYOND);
    is("other 4", x.move(0, 0, 4, 0, 1), BEYOND);
    is("from a missing one", x.move(3, 0, 0, 0, 1), NONE);
    is("to a missing one", x.move(0, 0, 3, 0, 1), NONE);
    is("both missing", x.move(3, 0, 3, 0, 0), NONE);
    x.sheet(2, 16, 4);
    is("16 to 8", x.move(2, 0, 0, 0, 1), KIND);
    is("8 to 16", x.move(0, 0, 2, 0, 0), KIND);
    x.sheet(2, 32, 4);
    is("32 to 8", x.move(2, 0, 0, 0, 1), KIND);
    is("n -1", x.move(0, 1, 1, 1, -1), BEYOND);
    is("i -1", x.move(0, -1, 1, 0, 1), BEYOND);
    is("j -1", x.move(0, 0, 1, -1, 1), BEYOND);
    is("i -1 of none", x.move(0, -1, 1, 0, 0), BEYOND);
    is("j -1 of none", x.move(0, 0, 1, -1, 0), BEYOND);
    is("one too many there", x.move(0, 0, 1, 0, 4), BEYOND);
    is("one too far there", x.move(0, 0, 1, 1, 3), BEYOND);
    is("one too many here", x.move(1, 0, 0, 0, 4), BEYOND);
    is("one too far here", x.move(1, 1, 0, 0, 3), BEYOND);
    is("i + n wraps", x.move(0, 1, 1, 0, MAX), BEYOND);
    is("i wraps", x.move(0, MAX, 1, 0, 1), BEYOND);
    is("j wraps", x.move(0, 0, 1, MAX, 1), BEYOND);
    is("nothing came of it", read(x, 1, 3), 344);
    is("nor here", read(x, 0, 4), 2344);
  }

  private static void row(NineBreakages x, int sheet, int... values) {
    for (int i = 0; i < values.length; i++) {
      x.put(sheet, i, values[i]);
    }
  }

  /** The numbers of a sheet as the digits of one number, by the care that people get from it. */
  private static int read(NineBreakages x, int sheet, int n) {
    is("cares", x.cares(sheet), n);
    int digits = 0;
    for (int i = 0; i < n; i++) {
      digits = 10 * digits + x.personIs(i, 0);
    }
    return digits;
  }

  private static void promises32To35() {
    says(32, "how many, up to the first that is not 0 to 9 (no ERROR then), or for which there is nobody.");
    NineBreakages x = with(5, 9, 0);
    x.person(5, 9);
    x.person(5, 9);
    x.sheet(0, 32, 3);
    for (int wrong : new int[] {-1, 10, MIN, MAX}) {
      row(x, 0, 0, wrong, 9);
      x.minds(1, 5);
      x.minds(2, 5);
      is("up to " + wrong, x.cares(0), 1);
      is("the first", x.personIs(0, 0), 0);
      is("not the second", x.personIs(1, 0), 5);
      is("nor the third", x.personIs(2, 0), 5);
    }
    x.put(0, 0, 10);
    is("none", x.cares(0), 0);
    row(x, 0, 9, 9, 9);
    is("all", x.cares(0), 3);
    x.sheet(0, 32, 4);
    is("one more than people", x.cares(0), 3);
    x.sheet(0, 32, 0);
    is("no numbers", x.cares(0), 0);
    is("no ERROR", x.told(1) + x.told(2), 0);
    NineBreakages nobody = new NineBreakages();
    nobody.sheet(0, 8, 1);
    is("nobody", nobody.cares(0), 0);
    says(32, "BEYOND: no such SHEET. NONE: it is missing.");
    is("-1", x.cares(-1), BEYOND);
    is("4", x.cares(4), BEYOND);
    is("missing", x.cares(3), NONE);
    says(33, "Numbers of a SHEET are whether PIECES 0, 1, .. are WHOLE (0), BROKEN (1), WALLED (2): how many are "
        + "right, "
        + "from the first on. BEYOND: no such SHEET. NONE: it is missing.");
    is("-1", x.judge(-1), BEYOND);
    is("4", x.judge(4), BEYOND);
    is("missing", x.judge(3), NONE);
    is("no numbers", x.judge(0), 0);
    x.sheet(0, 8, 2);
    is("one more than pieces", x.judge(0), 1);
    row(x, 0, 1, 0);
    is("the first is wrong", x.judge(0), 0);
    is("no pieces", nobody.judge(0), 0);
    x.piece(0, 0);
    is("only from the first on", x.judge(0), 0);
    row(x, 0, 0, 1);
    is("up to the second", x.judge(0), 1);
    x.drop(1);
    is("broken", x.judge(0), 2);
    x.wall(0, 1);
    is("walled is not whole", x.judge(0), 0);
    x.put(0, 0, 2);
    is("walled", x.judge(0), 2);
    says(34, "All (but SHEETS, THE TRACE, what told() tells, and how often this was done) is kept as an IMAGE, in "
        + "place "
        + "of one ahead: how often that was done.");
    imageOfNothing();
    imageOfAllThereCanBe();
    says(35, "All is as the IMAGE has it, which stays: DAY. NONE: there is none.");
    x = new NineBreakages();
    is("none", x.restore(), NONE);
    is("none still", x.restore(), NONE);
    onDay(9999, x);
    is("image", x.image(), 1);
    is("restore", x.restore(), 9999);
    is("restore again", x.restore(), 9999);
    imageHasNoMore();
  }

  private static void imageHasNoMore() {
    NineBreakages x = by(1, "8", by(0, "7", with(4, 3, 0)));
    is("image", x.image(), 1);
    x.untell(0);
    x.untell(1);
    x.sheet(0, 8, 1);
    x.voice(0, 1, 0);
    x.drop(1);
    is("restore", x.restore(), 0);
    is("the text of risk again", x.risk(0, 0), 7);
    is("the text of years again", x.personIs(0, 4), 8);
    is("the sheet stays", x.judge(0), 1);
    is("the trace stays", x.count(6), 2);
    is("and its bodies", x.body(1), 10);
    is("what is told stays", x.told(1), 1);
    is("how often stays", x.image(), 2);
  }

  private static void imageOfNothing() {
    NineBreakages x = new NineBreakages();
    is("of nothing", x.image(), 1);
    x.person(4, 3);
    x.piece(0, 0);
    x.drop(0);
    by(0, "7", x);
    by(1, "8", x);
    Due.feed(x, "9");
    x.tell(5);
    x.days(5);
    is("restore", x.restore(), 0);
    for (int what = 0; what < 8; what++) {
      is("count " + what, x.count(what), what == 7 ? 1 : 0);
    }
    is("no text of risk", x.untell(0), 0);
    is("no text of years", x.untell(1), 0);
    is("a person anew", x.person(2, 2), 0);
    is("who had nothing", x.personIs(0, 2), 0);
    is("a piece anew", x.piece(5, 0), 0);
    is("which is whole", x.pieceIs(0, 3), 0);
    by(0, "7", x);
    x.untell(0);
    is("of a text that is gone", x.image(), 2);
    by(0, "6", x);
    x.restore();
    is("it is gone", x.untell(0), 0);
  }

  private static void imageOfAllThereCanBe() {
    NineBreakages x = new NineBreakages();
    for (int i = 0; i < 5; i++) {
      x.person(i, 9 - i);
    }
    for (int i = 0; i < 9; i++) {
      x.piece(8 * i, i % 5);
    }
    x.drop(7);
    x.wall(8, 1);
    String sixty = "c+" + "1+".repeat(28) + "11";
    by(1, sixty, x);
    Due.feed(x, sixty);
    for (int i = 0; i < 24; i++) {
      x.tell(i == 2 ? 1 : 0);
    }
    x.seed(MIN);
    is("of all", x.image(), 1);
    x.check();
    x.tell(7);
    x.text(0);
    Due.feed(x, "1");
    x.seed(MAX);
    by(1, "1", x);
    for (int i = 0; i < 5; i++) {
      x.minds(i, 9);
    }
    for (int i = 0; i < 9; i++) {
      x.drop(i);
      x.become(i, 69);
      x.lend(i, 0);
    }
    is("restore", x.restore(), 0);
    for (int i = 0; i < 5; i++) {
      is("care " + i, x.personIs(i, 0), i);
      is("told " + i, x.personIs(i, 1), 9 - i);
      is("had " + i, x.personIs(i, 2), i == 2 ? 1 : 0);
    }
    for (int i = 0; i < 9; i++) {
      is("kind " + i, x.pieceIs(i, 0), 8 * i / 10);
      is("m " + i, x.pieceIs(i, 1), 8 * i % 10);
      is("owner " + i, x.pieceIs(i, 2), i % 5);
      is("state " + i, x.pieceIs(i, 3), Math.max(0, i - 6));
    }
    is("the text of sixty", x.law(1, 2, 0, 0), 41);
    is("z", x.count(7), MIN);
    is("24 wait", x.tell(0), FULL);
    is("the tape is full", x.feed('1', 1), FULL);
    is("the sixth waits in vain", x.check(), 6);
    is("the tape's sixty", x.text(1), 1);
    is("are as they were", x.law(1, 3, 0, 0), 42);
  }

  private static void promises36To39() {
    says(36, "One more number waits: how many. FULL: 24 wait.");
    NineBreakages x = with(4, 9, 0);
    for (int i = 1; i <= 24; i++) {
      is("tell " + i, x.tell(0), i);
    }
    is("25", x.tell(0), FULL);
    is("24 wait", x.count(5), 24);
    says(37, "The numbers that wait (none do then) are HAD of PEOPLE 0, 1, ..: 0; else 1 and the place (from 0) of the "
        + "first that isn't so (or for which there is nobody).");
    is("nobody is 1", x.check(), 2);
    is("none waits", x.count(5), 0);
    is("of none", x.check(), 0);
    is("of nobody", new NineBreakages().check(), 0);
    x.tell(MIN);
    is("the first isn't so", x.check(), 1);
    is("none waits either", x.count(5), 0);
    x.tell(0);
    is("it is", x.check(), 0);
    is("none waits then too", x.count(5), 0);
    for (int i = 1; i < 5; i++) {
      x.person(4, 9);
    }
    for (int i = 0; i < 6; i++) {
      x.tell(0);
    }
    is("nobody is 5", x.check(), 6);
    for (int i = 0; i < 5; i++) {
      x.tell(0);
    }
    is("all five", x.check(), 0);
    says(38, "0 PIECES, 1 PEOPLE, 2 DAY, 3 SHARDS, 4 bytes of THE TAPE, 5 numbers that wait, 6 BODIES in THE TRACE, "
        + "7 z "
        + "(any number). BEYOND.");
    for (int v : new int[] {-1, 8, MIN, MAX}) {
      is("count " + v, x.count(v), BEYOND);
    }
    x.seed(NONE);
    is("z like an ERROR", x.count(7), NONE);
    is("is none", x.told(2), 0);
    says(39, "How many acts have answered an ERROR LOW - k (k 1 .. 6); BEYOND: another k (counted, too).");
    is("four", x.told(1), 4);
    is("FULL", x.told(4), 1);
    for (int v : new int[] {0, 7, -1, MIN, MAX}) {
      is("told " + v, x.told(v), BEYOND);
    }
    is("those too", x.told(1), 9);
    is("none of 6", x.told(6), 0);
  }
}
