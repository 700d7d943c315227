import java.util.ArrayList;
import java.util.List;

/**
 * "One that answers an ERROR changes nothing but what told() tells, or where told": each refused call is made on one
 * of two objects that are alike, and then all that can be seen of both, what the TAPE holds, what waits, the SHEETS
 * and the IMAGE too, must be the same, but for told(k), which is one more. So are calls that only ask.
 */
public final class RefusedTest {
  private static final int BEYOND = 1;
  private static final int NONE = 2;
  private static final int STATE = 3;
  private static final int FULL = 4;
  private static final int KIND = 5;
  private static final int PARTED = 6;
  private static final int MIN = Integer.MIN_VALUE;
  private static final int MAX = Integer.MAX_VALUE;

  private interface Call {
    long on(NineBreakages x);
  }

  private interface Scene {
    NineBreakages made();
  }

  private RefusedTest() {}

  public static void main(String[] args) {
    String sentence = "one that answers an ERROR changes nothing but what told() tells, or where told.";
    Due.is("the document says: " + sentence, Doc.says(0, sentence) ? 1 : 0, 1);
    peopleAndPieces();
    textsAndDays();
    thoughts();
    voicesAndSheets();
    fullOnes();
    lateOnes();
    withoutAnImage();
    onlyThought();
    Due.end("RefusedTest");
  }

  /** Something of everything, with room for more. */
  private static NineBreakages some() {
    NineBreakages x = new NineBreakages();
    x.person(4, 3);
    x.person(8, 0);
    x.person(2, 5);
    for (int km : new int[] {0, 12, 23, 38, 40, 55, 67}) {
      x.piece(km, km % 3);
    }
    Due.text(x, 0, "r+d");
    Due.text(x, 1, "c*20+b+p");
    x.sheet(0, 8, 3);
    x.put(0, 0, 1);
    x.put(0, 1, 2);
    x.sheet(1, 16, 2);
    x.put(1, 1, 5);
    x.sheet(2, 8, 2);
    x.put(2, 0, 7);
    x.days(3);
    x.drop(3);
    x.wall(1, 1);
    x.image();
    x.seed(77);
    x.days(2);
    x.drop(2);
    x.minds(0, 6);
    x.tell(0);
    x.tell(1);
    x.tell(4);
    Due.feed(x, "c+1");
    x.voice(4, 2, 9);
    return x;
  }

  /** As many PEOPLE, PIECES, bytes and numbers that wait as there may be. */
  private static NineBreakages full() {
    NineBreakages x = some();
    while (x.count(1) < 5) {
      x.person(5, 5);
    }
    while (x.count(0) < 9) {
      x.piece(5, 0);
    }
    while (x.count(5) < 24) {
      x.tell(0);
    }
    Due.feed(x, "+(c<2)*3".repeat(7) + "+");
    return x;
  }

  private static NineBreakages nearlyFull() {
    NineBreakages x = some();
    Due.feed(x, "+(c<2)*3".repeat(6) + "+1111");
    return x;
  }

  private static NineBreakages late() {
    return Due.onDay(9980, some());
  }

  private static NineBreakages withoutImage() {
    NineBreakages x = new NineBreakages();
    x.person(4, 3);
    x.piece(5, 0);
    x.days(3);
    x.drop(0);
    x.tell(1);
    x.voice(0, 1, 1);
    return x;
  }

  private static void refused(Scene scene, String name, int k, Call call) {
    NineBreakages spared = scene.made();
    NineBreakages asked = scene.made();
    Due.is(name + " is refused", call.on(asked), -1000000000L - k);
    alike(name, spared, asked, k);
  }

  /** A call that answers no ERROR, and does nothing. */
  private static void asks(String name, Call call) {
    NineBreakages spared = some();
    NineBreakages asked = some();
    Due.is(name + " is answered", call.on(asked) > -1000000000L ? 1 : 0, 1);
    alike(name, spared, asked, 0);
  }

  private static void alike(String name, NineBreakages spared, NineBreakages asked, int k) {
    for (int i = 1; i <= 6; i++) {
      Due.is(name + ", told " + i, asked.told(i) - spared.told(i), i == k ? 1 : 0);
    }
    List<Long> want = seen(spared, k != PARTED);
    List<Long> got = seen(asked, k != PARTED);
    Due.is(name + ", as much is seen", got.size(), want.size());
    for (int i = 0; i < want.size() && i < got.size(); i++) {
      Due.is(name + ", what is seen " + i, got.get(i), want.get(i));
    }
  }

  /** All that can be seen; told() aside, and, behind a voice that PARTED, THE TRACE. */
  private static List<Long> seen(NineBreakages x, boolean andTrace) {
    List<Long> all = new ArrayList<>();
    if (andTrace) {
      trace(x, all);
    }
    outside(x, all);
    sheets(x, all);
    all.add((long) x.check());
    all.add((long) x.text(1));
    laws(x, all);
    all.add((long) x.loose(2));
    all.add((long) x.count(7));
    all.add((long) x.restore());
    outside(x, all);
    all.add((long) x.check());
    all.add((long) x.text(1));
    laws(x, all);
    all.add((long) x.image());
    return all;
  }

  private static void trace(NineBreakages x, List<Long> all) {
    for (int i = 0; i < x.count(6); i++) {
      all.add((long) x.body(i));
    }
  }

  private static void outside(NineBreakages x, List<Long> all) {
    for (int what : new int[] {0, 1, 2, 3, 4, 5, 7}) {
      all.add((long) x.count(what));
    }
    for (int person = 0; person < x.count(1); person++) {
      for (int what = 0; what < 5; what++) {
        all.add((long) x.personIs(person, what));
      }
    }
    for (int piece = 0; piece < x.count(0); piece++) {
      for (int what = 0; what < 6; what++) {
        all.add((long) x.pieceIs(piece, what));
      }
    }
    laws(x, all);
  }

  private static void laws(NineBreakages x, List<Long> all) {
    for (int a = 0; a < 3; a++) {
      all.add((long) x.law(0, a + 4, 2 * a, a));
      all.add((long) x.law(1, a + 2, 3 * a, a));
    }
  }

  private static void sheets(NineBreakages x, List<Long> all) {
    for (int sheet = 0; sheet < 4; sheet++) {
      all.add((long) x.judge(sheet));
      all.add((long) x.cares(sheet));
      for (int person = 0; person < x.count(1); person++) {
        all.add((long) x.personIs(person, 0));
      }
      for (int size = 0; size <= 4; size++) {
        all.add((long) x.put(sheet, size, 0));
      }
    }
  }

  private static void beyond(String name, Call call) {
    refused(RefusedTest::some, name, BEYOND, call);
  }

  private static void peopleAndPieces() {
    for (int v : new int[] {-1, 10, MIN, MAX}) {
      beyond("person(" + v + ", 0)", x -> x.person(v, 0));
      beyond("person(0, " + v + ")", x -> x.person(0, v));
      beyond("minds(0, " + v + ")", x -> x.minds(0, v));
    }
    for (int v : new int[] {-1, 3, MIN, MAX}) {
      beyond("personIs(" + v + ", 0)", x -> x.personIs(v, 0));
      beyond("piece(0, " + v + ")", x -> x.piece(0, v));
      beyond("minds(" + v + ", 0)", x -> x.minds(v, 0));
      beyond("lend(0, " + v + ")", x -> x.lend(0, v));
      beyond("risk(0, " + v + ")", x -> x.risk(0, v));
    }
    for (int v : new int[] {-1, 70, MIN, MAX}) {
      beyond("piece(" + v + ", 0)", x -> x.piece(v, 0));
      beyond("become(0, " + v + ")", x -> x.become(0, v));
    }
    for (int v : new int[] {-1, 7, MIN, MAX}) {
      beyond("pieceIs(" + v + ", 0)", x -> x.pieceIs(v, 0));
      beyond("become(" + v + ", 0)", x -> x.become(v, 0));
      beyond("as(" + v + ", 0)", x -> x.as(v, 0));
      beyond("as(0, " + v + ")", x -> x.as(0, v));
      beyond("lend(" + v + ", 0)", x -> x.lend(v, 0));
      beyond("wall(" + v + ", 0)", x -> x.wall(v, 0));
      beyond("risk(" + v + ", 0)", x -> x.risk(v, 0));
      beyond("drop(" + v + ")", x -> x.drop(v));
    }
    beyond("personIs(0, 5)", x -> x.personIs(0, 5));
    beyond("pieceIs(0, 6)", x -> x.pieceIs(0, 6));
    beyond("wall(0, 2)", x -> x.wall(0, 2));
    beyond("wall(0, -1)", x -> x.wall(0, -1));
    refused(RefusedTest::some, "as(0, 1)", KIND, x -> x.as(0, 1));
    refused(RefusedTest::some, "wall of a broken one", STATE, x -> x.wall(3, 1));
    refused(RefusedTest::some, "wall out of a broken one", STATE, x -> x.wall(3, 0));
    refused(RefusedTest::some, "drop of a broken one", STATE, x -> x.drop(3));
    refused(RefusedTest::some, "drop of a walled one", STATE, x -> x.drop(1));
  }

  private static void textsAndDays() {
    for (int v : new int[] {-1, 0, 9, MIN, MAX}) {
      beyond("feed(7, " + v + ")", x -> x.feed(7, v));
    }
    for (int v : new int[] {-1, 2, MIN, MAX}) {
      beyond("text(" + v + ")", x -> x.text(v));
      beyond("untell(" + v + ")", x -> x.untell(v));
      beyond("law(" + v + ", 1, 1, 1)", x -> x.law(v, 1, 1, 1));
    }
    for (int v : new int[] {-1, 0, 61, MIN, MAX}) {
      beyond("days(" + v + ")", x -> x.days(v));
    }
    for (int v : new int[] {-1, 0, 31, MIN, MAX}) {
      beyond("loose(" + v + ")", x -> x.loose(v));
    }
  }

  private static void thoughts() {
    for (int v : new int[] {-1, 3, MIN, MAX}) {
      beyond("left(" + v + ", 0)", x -> x.left(v, 0));
      beyond("left(0, " + v + ")", x -> x.left(0, v));
      beyond("odds(" + v + ", 0, 0)", x -> x.odds(v, 0, 0));
      beyond("odds(0, 0, " + v + ")", x -> x.odds(0, 0, v));
      beyond("through(" + v + ", 0)", x -> x.through(v, 0));
      beyond("through(0, " + v + ")", x -> x.through(0, v));
      beyond("safest(0, " + v + ")", x -> x.safest(0, v));
      beyond("saves(" + v + ", 0)", x -> x.saves(v, 0));
      beyond("saves(0, " + v + ")", x -> x.saves(0, v));
      beyond("fits(0, " + v + ", 0)", x -> x.fits(0, v, 0));
      beyond("fits(0, 0, " + v + ")", x -> x.fits(0, 0, v));
    }
    for (int v : new int[] {-1, 10, MIN, MAX}) {
      beyond("odds(0, " + v + ", 0)", x -> x.odds(0, v, 0));
      beyond("safest(" + v + ", 0)", x -> x.safest(v, 0));
      beyond("counts(" + v + ")", x -> x.counts(v));
      beyond("fits(" + v + ", 0, 0)", x -> x.fits(v, 0, 0));
    }
    refused(RefusedTest::some, "saves of one who is through", STATE, x -> x.saves(1, 0));
    refused(RefusedTest::some, "counts of a jug", NONE, x -> x.counts(6));
    refused(RefusedTest::some, "fits by a missing sheet", NONE, x -> x.fits(3, 0, 0));
    refused(RefusedTest::some, "fits with no care", NONE, x -> x.fits(0, 0, 1));
  }

  private static void voicesAndSheets() {
    for (int v : new int[] {-1, 7, MIN, MAX}) {
      beyond("voice(" + v + ", 0, 1)", x -> x.voice(v, 0, 1));
      beyond("voice(0, " + v + ", 1)", x -> x.voice(0, v, 1));
      beyond("sheet(" + v + ", 8, 1)", x -> x.sheet(v, 8, 1));
      beyond("sheet(0, " + v + ", 1)", x -> x.sheet(0, v, 1));
      beyond("put(" + v + ", 0, 1)", x -> x.put(v, 0, 1));
      beyond("put(0, " + v + ", 1)", x -> x.put(0, v, 1));
      beyond("move(" + v + ", 0, 0, 0, 1)", x -> x.move(v, 0, 0, 0, 1));
      beyond("move(0, 0, " + v + ", 0, 1)", x -> x.move(0, 0, v, 0, 1));
      beyond("move(0, " + v + ", 2, 0, 1)", x -> x.move(0, v, 2, 0, 1));
      beyond("move(0, 0, 2, " + v + ", 1)", x -> x.move(0, 0, 2, v, 1));
      beyond("move(0, 0, 2, 0, " + v + ")", x -> x.move(0, 0, 2, 0, v));
      beyond("cares(" + v + ")", x -> x.cares(v));
      beyond("judge(" + v + ")", x -> x.judge(v));
      refused(RefusedTest::some, "body(" + v + ")", NONE, x -> x.body(v));
    }
    beyond("sheet(0, 8, 25)", x -> x.sheet(0, 8, 25));
    beyond("move of one too many here", x -> x.move(0, 1, 0, 0, 3));
    beyond("move of one too many there", x -> x.move(0, 0, 2, 1, 2));
    beyond("count(8)", x -> x.count(8));
    beyond("count(-1)", x -> x.count(-1));
    beyond("told(0)", x -> x.told(0));
    beyond("told(7)", x -> x.told(7));
    refused(RefusedTest::some, "sheet(0, 8, -1)", STATE, x -> x.sheet(0, 8, -1));
    refused(RefusedTest::some, "put into a missing sheet", NONE, x -> x.put(3, 0, 1));
    refused(RefusedTest::some, "move from a missing sheet", NONE, x -> x.move(3, 0, 0, 0, 0));
    refused(RefusedTest::some, "move to a missing sheet", NONE, x -> x.move(0, 0, 3, 0, 0));
    refused(RefusedTest::some, "move between unlike bits", KIND, x -> x.move(0, 0, 1, 0, 1));
    refused(RefusedTest::some, "cares of a missing sheet", NONE, x -> x.cares(3));
    refused(RefusedTest::some, "judge of a missing sheet", NONE, x -> x.judge(3));
    refused(RefusedTest::some, "voice that parts", PARTED, x -> x.voice(0, 3, 9));
  }

  private static void fullOnes() {
    refused(RefusedTest::full, "person six", FULL, x -> x.person(5, 5));
    refused(RefusedTest::full, "piece ten", FULL, x -> x.piece(5, 0));
    refused(RefusedTest::full, "byte 61", FULL, x -> x.feed('1', 1));
    refused(RefusedTest::full, "bytes 61 to 68", FULL, x -> x.feed(0x3131313131313131L, 8));
    refused(RefusedTest::nearlyFull, "bytes 57 to 61", FULL, x -> x.feed(0x3131313131L, 5));
    refused(RefusedTest::full, "number 25", FULL, x -> x.tell(7));
    refused(RefusedTest::full, "piece nine", BEYOND, x -> x.drop(9));
    refused(RefusedTest::full, "person five", BEYOND, x -> x.minds(5, 0));
  }

  private static void lateOnes() {
    refused(RefusedTest::late, "days past 9999", STATE, x -> x.days(20));
    refused(RefusedTest::late, "days by draws past 9999", STATE, x -> x.loose(20));
  }

  private static void withoutAnImage() {
    refused(RefusedTest::withoutImage, "restore without an image", NONE, x -> x.restore());
  }

  private static void onlyThought() {
    String sentence = "(All this is only thought.)";
    Due.is("the document says: " + sentence, Doc.says(0, sentence) ? 1 : 0, 1);
    for (int part = 0; part < 2; part++) {
      int what = part;
      for (int i = 0; i < 3; i++) {
        int person = i;
        asks("left(" + i + ", " + what + ")", x -> x.left(person, what));
        asks("odds(" + i + ", 1, " + what + ")", x -> x.odds(person, 1, what));
        asks("through(" + i + ", " + what + ")", x -> x.through(person, what));
      }
      asks("safest(1, " + what + ")", x -> x.safest(1, what));
      asks("saves(2, " + what + ")", x -> x.saves(2, what));
      asks("fits(2, 0, 0)", x -> x.fits(2, 0, 0));
    }
    for (int i = 0; i < 6; i++) {
      int piece = i;
      asks("as(" + i + ", 0)", x -> x.as(piece, 0));
      asks("risk(" + i + ", 1)", x -> x.risk(piece, 1));
      asks("pieceIs(1, " + i + ")", x -> x.pieceIs(1, piece));
      asks("told(" + (i + 1) + ")", x -> x.told(piece + 1));
      asks("count(" + i + ")", x -> x.count(piece));
      asks("body(" + i + ")", x -> x.body(piece));
    }
    asks("counts(2)", x -> x.counts(2));
    asks("counts(4)", x -> x.counts(4));
    for (int what = 0; what < 5; what++) {
      int asked = what;
      asks("personIs(0, " + what + ")", x -> x.personIs(0, asked));
    }
    asks("law(0, 1, 2, 3)", x -> x.law(0, 1, 2, 3));
    asks("law(1, 1, 2, 3)", x -> x.law(1, 1, 2, 3));
    asks("judge(0)", x -> x.judge(0));
  }
}
