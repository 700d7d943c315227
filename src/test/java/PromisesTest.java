/** Each promise of the document by ordinary inputs, the edges that it names, and wrong inputs. */
public final class PromisesTest {
  private static final int BEYOND = Due.BEYOND;
  private static final int NONE = Due.NONE;
  private static final int STATE = Due.STATE;
  private static final int FULL = Due.FULL;
  private static final int KIND = Due.KIND;
  private static final int PARTED = Due.PARTED;

  public static void main(String[] args) {
    newObject();
    person();
    personIs();
    piece();
    pieceIs();
    countsByKind();
    become();
    as();
    minds();
    lend();
    wall();
    risk();
    risksByKind();
    drop();
    feed();
    text();
    faults();
    untell();
    law();
    lawSigns();
    days();
    loose();
    looseInTurn();
    seed();
    left();
    odds();
    through();
    safest();
    saves();
    counts();
    fits();
    voice();
    parted();
    body();
    sheet();
    put();
    move();
    cares();
    judge();
    image();
    imageKeepsAll();
    restore();
    tell();
    check();
    count();
    told();
    toldByEachAct();
    toldIsOnlyErrors();
    Due.end("PromisesTest");
  }

  private static void is(String call, long got, long want) {
    Due.is(call, got, want);
  }

  /** Each of a row of answers, from the first index on. */
  private static void row(String call, long[] got, long... want) {
    is(call + " length", got.length, want.length);
    for (int i = 0; i < want.length && i < got.length; i++) {
      is(call + " [" + i + "]", got[i], want[i]);
    }
  }

  private static long[] trace(NineBreakages x) {
    int n = x.count(6);
    long[] bodies = new long[n];
    for (int i = 0; i < n; i++) {
      bodies[i] = x.body(i);
    }
    return bodies;
  }

  private static NineBreakages with(int care, int told, int... kms) {
    NineBreakages x = new NineBreakages();
    x.person(care, told);
    for (int km : kms) {
      x.piece(km, 0);
    }
    return x;
  }

  // Promise 1
  private static void newObject() {
    NineBreakages x = new NineBreakages();
    for (int what = 0; what < 7; what++) {
      is("new count " + what, x.count(what), 0);
    }
    is("new z", x.count(7), 1);
    for (int k = 1; k <= 6; k++) {
      is("new told " + k, x.told(k), 0);
    }
    is("new untell 0", x.untell(0), 0);
    is("new untell 1", x.untell(1), 0);
    is("new law 0", x.law(0, 7, 0, 0), 7);
    is("new law 1", x.law(1, 7, 0, 0), 70);
    for (int s = 0; s < 4; s++) {
      is("new sheet " + s, x.judge(s), NONE);
    }
    is("new restore", x.restore(), NONE);
    is("new check", x.check(), 0);
    is("new body", x.body(0), NONE);
    is("new personIs", x.personIs(0, 0), BEYOND);
    is("new pieceIs", x.pieceIs(0, 0), BEYOND);
    x.person(1, 1);
    is("another is another", new NineBreakages().count(1), 0);
  }

  // Promise 2
  private static void person() {
    NineBreakages x = new NineBreakages();
    for (int v : new int[] {-1, 10, Integer.MIN_VALUE, Integer.MAX_VALUE}) {
      is("person care " + v, x.person(v, 0), BEYOND);
      is("person told " + v, x.person(0, v), BEYOND);
    }
    is("none came", x.count(1), 0);
    is("person 0", x.person(0, 9), 0);
    is("person 1", x.person(9, 0), 1);
    is("person 2", x.person(3, 4), 2);
    is("person 3", x.person(3, 4), 3);
    is("person 4", x.person(3, 4), 4);
    is("person 5", x.person(3, 4), FULL);
    is("BEYOND ahead of FULL", x.person(10, 4), BEYOND);
    is("five", x.count(1), 5);
    is("care 2", x.personIs(2, 0), 3);
    is("told 2", x.personIs(2, 1), 4);
  }

  // Promise 3
  private static void personIs() {
    NineBreakages x = with(6, 2, 3, 4);
    x.person(1, 0);
    is("care", x.personIs(0, 0), 6);
    is("told", x.personIs(0, 1), 2);
    is("had", x.personIs(0, 2), 0);
    is("through", x.personIs(0, 3), 0);
    is("years", x.personIs(0, 4), 20);
    is("told none is through", x.personIs(1, 3), 1);
    is("through has no years", x.personIs(1, 4), 0);
    x.drop(0);
    is("had 1", x.personIs(0, 2), 1);
    is("not yet", x.personIs(0, 3), 0);
    is("years 1", x.personIs(0, 4), 10);
    x.drop(1);
    is("had 2", x.personIs(0, 2), 2);
    is("through now", x.personIs(0, 3), 1);
    is("text of years", Due.text(x, 1, "c*100+b*10+p"), 1);
    is("years by text 0", x.personIs(0, 4), 20);
    is("years by text 1", x.personIs(1, 4), 21);
    is("years are of those to come", with(0, 9).personIs(0, 4), 90);
    NineBreakages more = with(6, 1, 3, 4);
    more.drop(0);
    more.drop(1);
    is("had more than told", more.personIs(0, 2), 2);
    is("through by more", more.personIs(0, 3), 1);
    is("never below 0", Due.text(more, 1, "c+7"), 1);
    is("c is 0 at least", more.personIs(0, 4), 7);
    for (int v : new int[] {-1, 5, Integer.MIN_VALUE, Integer.MAX_VALUE}) {
      is("personIs what " + v, x.personIs(0, v), BEYOND);
    }
    for (int v : new int[] {-1, 2, Integer.MIN_VALUE, Integer.MAX_VALUE}) {
      is("personIs person " + v, x.personIs(v, 0), BEYOND);
    }
  }

  // Promise 4
  private static void piece() {
    NineBreakages x = new NineBreakages();
    is("nobody's", x.piece(0, 0), BEYOND);
    x.person(1, 1);
    for (int v : new int[] {-1, 70, Integer.MIN_VALUE, Integer.MAX_VALUE}) {
      is("piece km " + v, x.piece(v, 0), BEYOND);
    }
    for (int v : new int[] {-1, 1, Integer.MIN_VALUE, Integer.MAX_VALUE}) {
      is("piece owner " + v, x.piece(0, v), BEYOND);
    }
    is("none came", x.count(0), 0);
    for (int i = 0; i < 9; i++) {
      is("piece " + i, x.piece(i * 69 / 8, 0), i);
    }
    is("piece 9", x.piece(0, 0), FULL);
    is("BEYOND ahead of FULL", x.piece(70, 0), BEYOND);
    is("nine", x.count(0), 9);
    is("kind", x.pieceIs(8, 0), 6);
    is("m", x.pieceIs(8, 1), 9);
    is("owner", x.pieceIs(8, 2), 0);
    is("whole", x.pieceIs(8, 3), 0);
  }

  // Promise 5
  private static void pieceIs() {
    NineBreakages x = with(4, 3, 27, 35);
    x.person(9, 9);
    x.piece(18, 1);
    is("kind", x.pieceIs(0, 0), 2);
    is("m", x.pieceIs(0, 1), 7);
    is("owner", x.pieceIs(2, 2), 1);
    is("whole", x.pieceIs(0, 3), 0);
    is("counts", x.pieceIs(0, 4), 1);
    is("risk", x.pieceIs(0, 5), 6);
    is("risk in its owner's hands", x.pieceIs(2, 5), 12);
    x.drop(0);
    is("broken", x.pieceIs(0, 3), 1);
    is("a broken one counts as it did", x.pieceIs(0, 4), 1);
    x.wall(1, 1);
    is("walled", x.pieceIs(1, 3), 2);
    for (int v : new int[] {-1, 6, Integer.MIN_VALUE, Integer.MAX_VALUE}) {
      is("pieceIs what " + v, x.pieceIs(0, v), BEYOND);
    }
    for (int v : new int[] {-1, 3, 9, Integer.MIN_VALUE, Integer.MAX_VALUE}) {
      is("pieceIs piece " + v, x.pieceIs(v, 0), BEYOND);
    }
  }

  // Promise 5, COUNTS
  private static void countsByKind() {
    NineBreakages x = with(4, 9, 0, 10, 24, 25, 37, 38, 40, 54);
    x.piece(55, 0);
    int[] even = {1, 1, 1, 1, 1, 0, 0, 1, 1};
    int[] odd = {1, 1, 0, 1, 1, 0, 0, 0, 1};
    for (int i = 0; i < 9; i++) {
      is("even day counts " + i, x.pieceIs(i, 4), even[i]);
    }
    x.days(1);
    for (int i = 0; i < 9; i++) {
      is("odd day counts " + i, x.pieceIs(i, 4), odd[i]);
    }
    x.drop(0);
    is("saucer counts behind a shard", x.pieceIs(6, 4), 1);
    x.days(60);
    x.days(38);
    is("day", x.count(2), 99);
    is("tureen on 99", x.pieceIs(7, 4), 0);
    x.days(2);
    is("tureen on 101", x.pieceIs(7, 4), 1);
    is("boat on 101", x.pieceIs(2, 4), 0);
    x.become(7, 60);
    is("jug", x.pieceIs(7, 4), 0);
    x.days(1);
    is("jug on an even day", x.pieceIs(7, 4), 0);
  }

  // Promise 6
  private static void become() {
    NineBreakages x = with(4, 3, 12);
    x.wall(0, 1);
    is("become", x.become(0, 69), 1);
    is("become again", x.become(0, 0), 6);
    is("kind", x.pieceIs(0, 0), 0);
    is("m", x.pieceIs(0, 1), 0);
    is("still walled", x.pieceIs(0, 3), 2);
    for (int v : new int[] {-1, 70, Integer.MIN_VALUE, Integer.MAX_VALUE}) {
      is("become km " + v, x.become(0, v), BEYOND);
    }
    for (int v : new int[] {-1, 1, Integer.MIN_VALUE, Integer.MAX_VALUE}) {
      is("become piece " + v, x.become(v, 0), BEYOND);
    }
    is("unchanged", x.pieceIs(0, 0), 0);
  }

  // Promise 7
  private static void as() {
    boolean[][] under = new boolean[7][7];
    int[] above = {-1, 0, 0, 0, 1, 2, 0};
    for (int kind = 0; kind < 7; kind++) {
      for (int at = kind; at >= 0; at = above[at]) {
        under[kind][at] = true;
      }
    }
    NineBreakages x = with(4, 3, 0);
    for (int kind = 0; kind < 7; kind++) {
      x.become(0, 10 * kind + kind + 3);
      for (int other = 0; other < 7; other++) {
        is(kind + " as " + other, x.as(0, other), under[kind][other] ? kind + 3 : KIND);
      }
    }
    for (int v : new int[] {-1, 7, Integer.MIN_VALUE, Integer.MAX_VALUE}) {
      is("as kind " + v, x.as(0, v), BEYOND);
    }
    for (int v : new int[] {-1, 1, Integer.MIN_VALUE, Integer.MAX_VALUE}) {
      is("as piece " + v, x.as(v, 0), BEYOND);
    }
  }

  // Promise 8
  private static void minds() {
    NineBreakages x = with(4, 3, 0);
    is("minds 9", x.minds(0, 9), 4);
    is("minds 0", x.minds(0, 0), 9);
    for (int v : new int[] {-1, 10, Integer.MIN_VALUE, Integer.MAX_VALUE}) {
      is("minds care " + v, x.minds(0, v), BEYOND);
    }
    for (int v : new int[] {-1, 1, Integer.MIN_VALUE, Integer.MAX_VALUE}) {
      is("minds person " + v, x.minds(v, 1), BEYOND);
    }
    is("care", x.personIs(0, 0), 0);
    is("told stays", x.personIs(0, 1), 3);
  }

  // Promise 9
  private static void lend() {
    NineBreakages x = with(4, 3, 0);
    x.person(9, 1);
    is("lend", x.lend(0, 1), 0);
    is("owner", x.pieceIs(0, 2), 1);
    is("lend to the same", x.lend(0, 1), 1);
    x.drop(0);
    is("the new one had it", x.personIs(1, 2), 1);
    is("the old one not", x.personIs(0, 2), 0);
    is("lend a broken one", x.lend(0, 0), 1);
    for (int v : new int[] {-1, 2, Integer.MIN_VALUE, Integer.MAX_VALUE}) {
      is("lend person " + v, x.lend(0, v), BEYOND);
    }
    for (int v : new int[] {-1, 1, Integer.MIN_VALUE, Integer.MAX_VALUE}) {
      is("lend piece " + v, x.lend(v, 0), BEYOND);
    }
    is("owner stays", x.pieceIs(0, 2), 0);
  }

  // Promise 10
  private static void wall() {
    NineBreakages x = with(4, 3, 0);
    is("out that is out", x.wall(0, 0), 0);
    is("in", x.wall(0, 1), 0);
    is("in that is in", x.wall(0, 1), 1);
    is("it is walled", x.pieceIs(0, 3), 2);
    is("out", x.wall(0, 0), 1);
    is("it is whole", x.pieceIs(0, 3), 0);
    for (int v : new int[] {-1, 2, Integer.MIN_VALUE, Integer.MAX_VALUE}) {
      is("wall is " + v, x.wall(0, v), BEYOND);
    }
    for (int v : new int[] {-1, 1, Integer.MIN_VALUE, Integer.MAX_VALUE}) {
      is("wall piece " + v, x.wall(v, 0), BEYOND);
    }
    x.drop(0);
    is("broken in", x.wall(0, 1), STATE);
    is("broken out", x.wall(0, 0), STATE);
    is("BEYOND ahead of STATE", x.wall(0, 2), BEYOND);
    is("still broken", x.pieceIs(0, 3), 1);
  }

  // Promise 11
  private static void risk() {
    NineBreakages x = with(4, 3, 5);
    x.person(9, 1);
    is("in 0's", x.risk(0, 0), 11);
    is("in 1's", x.risk(0, 1), 6);
    x.minds(1, 0);
    x.become(0, 9);
    is("held at 16", x.risk(0, 1), 16);
    is("by text", Due.text(x, 0, "r+c*2-d"), 1);
    x.minds(1, 9);
    x.days(8);
    is("r 10, c 9, d 1", x.risk(0, 1), 16);
    x.become(0, 0);
    is("r 6, c 4, d 1", x.risk(0, 0), 13);
    is("another text", Due.text(x, 0, "d-2"), 1);
    is("held at 0", x.risk(0, 0), 0);
    is("d goes to 6", x.days(5), 13);
    is("d 6", x.risk(0, 0), 4);
    is("d begins anew", x.days(1), 14);
    is("d 0", x.risk(0, 0), 0);
    for (int v : new int[] {-1, 2, Integer.MIN_VALUE, Integer.MAX_VALUE}) {
      is("risk person " + v, x.risk(0, v), BEYOND);
    }
    for (int v : new int[] {-1, 1, Integer.MIN_VALUE, Integer.MAX_VALUE}) {
      is("risk piece " + v, x.risk(v, 0), BEYOND);
    }
  }

  // Promise 11, SLIPS
  private static void risksByKind() {
    NineBreakages x = with(8, 3, 3, 13, 23, 33, 43, 53, 63);
    row("care 8", risks(x), 5, 8, 2, 2, 8, 2, 0);
    x.minds(0, 7);
    row("care 7", risks(x), 6, 9, 3, 3, 9, 3, 0);
    x.minds(0, 6);
    row("care 6", risks(x), 7, 10, 3, 4, 10, 3, 7);
    x.days(2);
    row("day 2", risks(x), 7, 10, 3, 4, 12, 3, 7);
    x.drop(0);
    x.drop(1);
    row("two shards", risks(x), 7, 10, 3, 4, 12, 5, 7);
    x.days(1);
    row("day 3", risks(x), 7, 10, 3, 4, 10, 5, 7);
    x.wall(2, 1);
    row("a walled one is no shard", risks(x), 7, 10, 3, 4, 10, 5, 7);
  }

  private static long[] risks(NineBreakages x) {
    long[] all = new long[x.count(0)];
    for (int i = 0; i < all.length; i++) {
      all[i] = x.risk(i, 0);
    }
    return all;
  }

  // Promise 12
  private static void drop() {
    NineBreakages x = with(4, 1, 40, 60, 5, 6);
    is("a saucer ahead of its own shard", x.drop(0), 0);
    is("not had", x.personIs(0, 2), 0);
    is("broken", x.pieceIs(0, 3), 1);
    is("a jug", x.drop(1), 0);
    is("a piece", x.drop(2), 1);
    is("had", x.personIs(0, 2), 1);
    is("again", x.drop(2), STATE);
    is("through, and more", x.drop(3), 1);
    is("had more", x.personIs(0, 2), 2);
    for (int v : new int[] {-1, 4, Integer.MIN_VALUE, Integer.MAX_VALUE}) {
      is("drop piece " + v, x.drop(v), BEYOND);
    }
    NineBreakages y = with(4, 1, 0);
    y.wall(0, 1);
    is("walled", y.drop(0), STATE);
    is("still walled", y.pieceIs(0, 3), 2);
    is("nothing had", y.personIs(0, 2), 0);
  }

  // Promise 13
  private static void feed() {
    NineBreakages x = new NineBreakages();
    for (int v : new int[] {-1, 0, 9, Integer.MIN_VALUE, Integer.MAX_VALUE}) {
      is("feed n " + v, x.feed(0, v), BEYOND);
    }
    is("none came", x.count(4), 0);
    is("lowest first", x.feed(0x7f_2b_31L, 2), 2);
    is("the next", x.feed(0x3737_3737_3737_3732L, 1), 3);
    is("text 1+2", x.text(0), 1);
    is("3", x.law(0, 0, 0, 0), 3);
    is("eight", x.feed(0x3131_3131_2b31_3131L, 8), 8);
    is("text 111+1111", x.text(1), 1);
    is("held", x.law(1, 0, 0, 0), 199);
    is("the highest byte", x.feed(0x8031_3131_3131_3131L, 8), 8);
    is("at 4", x.text(1), -14);
    for (int i = 1; i <= 7; i++) {
      is("fill " + i, x.feed(0x3131_3131_2b31_3131L, 8), 8 * i);
    }
    is("BEYOND ahead of FULL", x.feed(0, 9), BEYOND);
    is("five are too many", x.feed(0, 5), FULL);
    is("none of them came", x.count(4), 56);
    is("four go", x.feed(0x31313131L, 4), 60);
    is("full", x.feed(0, 1), FULL);
    is("sixty", x.count(4), 60);
  }

  // Promise 14
  private static void text() {
    NineBreakages x = new NineBreakages();
    Due.feed(x, "r+1");
    for (int v : new int[] {-1, 2, Integer.MIN_VALUE, Integer.MAX_VALUE}) {
      is("text use " + v, x.text(v), BEYOND);
    }
    is("the tape stays", x.count(4), 3);
    is("text", x.text(0), 1);
    is("the tape is empty", x.count(4), 0);
    is("given", x.law(0, 4, 0, 0), 5);
    is("the other use has none", x.untell(1), 0);
    is("another in its place", Due.text(x, 0, "r+2"), 1);
    is("given anew", x.law(0, 4, 0, 0), 6);
    is("fault", Due.text(x, 0, "r+"), -12);
    is("the tape is empty then too", x.count(4), 0);
    is("the one ahead stays", x.law(0, 4, 0, 0), 6);
    is("no error", x.told(1), 4);
    is("each use its own names", Due.text(x, 1, "c+b*10+p*100"), 1);
    is("c, b, p", x.law(1, 1, 2, 0), 21);
    is("p", x.law(1, 1, 2, 1), 121);
    is("r, c, d", Due.text(x, 0, "r+c*2+d*4"), 1);
    is("1", x.law(0, 1, 0, 0), 1);
    is("2", x.law(0, 0, 1, 0), 2);
    is("4", x.law(0, 0, 0, 1), 4);
  }

  // Promise 14, FAULT
  private static void faults() {
    String[] wrong = {
      "", "0", "+", "0", "1+", "2", "1 ", "1", "12345", "4", "1<2<3", "3", "1=2=3", "3", "1<2>3", "3",
      "b", "0", "r+b", "2", "p", "0", "(1", "2", "(1))", "3", ")", "0", "()", "1", "(1+)", "3", "!", "1",
      "!!!!!!1", "5", "((((((1", "5", "!(!(!(1", "5", "!!!!!", "5", "!!!!!(", "5", "1!", "1", "1(", "1",
      "r1", "1", "1r", "1", "rr", "1", "1|", "2", "1||1", "2", "1&&1", "2", "1==1", "2", "-1", "0",
      "1--1", "2", "(1<2)<3<4", "7", "1+*", "2", "R", "0", "((1)", "4", "1)", "1", "(1(", "2"
    };
    NineBreakages x = new NineBreakages();
    for (int i = 0; i < wrong.length; i += 2) {
      is("fault of " + wrong[i], Due.text(x, 0, wrong[i]), -10 - Integer.parseInt(wrong[i + 1]));
    }
    String[] right = {
      "0", "0000", "9999", "(((((1)))))", "!!!!!1", "!(!(!1))", "(1)+(1)+(1)+(1)+(1)+(1)", "!1+!1+!1+!1+!1+!1",
      "(1<2)<3", "1<2&2<3|3=3", "!r", "r", "c", "d", "r*c/d%2+1-1", "!(1)"
    };
    for (String text : right) {
      is("text " + text, Due.text(x, 0, text), 1);
    }
    is("r is no name of years", Due.text(x, 1, "r"), -10);
    is("d is no name of years", Due.text(x, 1, "d"), -10);
    is("c, b, p are", Due.text(x, 1, "c+b+p"), 1);
    is("a sign above 127", x.feed(0xe9L, 1), 1);
    is("its fault", x.text(0), -10);
    Due.feed(x, "1+".repeat(30));
    is("sixty that end too early", x.text(0), -70);
    Due.feed(x, "1+".repeat(29) + "11");
    is("sixty", x.text(0), 1);
    is("their sum", x.law(0, 0, 0, 0), 16);
  }

  // Promise 15
  private static void untell() {
    NineBreakages x = with(4, 3, 0);
    Due.text(x, 0, "7");
    Due.text(x, 1, "8");
    for (int v : new int[] {-1, 2, Integer.MIN_VALUE, Integer.MAX_VALUE}) {
      is("untell use " + v, x.untell(v), BEYOND);
    }
    is("untell 0", x.untell(0), 1);
    is("the other stays", x.personIs(0, 4), 8);
    is("as without", x.risk(0, 0), 6);
    is("untell 0 again", x.untell(0), 0);
    is("untell 1", x.untell(1), 1);
    is("years as without", x.personIs(0, 4), 30);
    is("untell 1 again", x.untell(1), 0);
  }

  // Promise 16
  private static void law() {
    NineBreakages x = new NineBreakages();
    for (int v : new int[] {-1, 2, Integer.MIN_VALUE, Integer.MAX_VALUE}) {
      is("law use " + v, x.law(v, 1, 1, 1), BEYOND);
    }
    is("r", x.law(0, 15, 3, 3), 15);
    is("r held above", x.law(0, 17, 0, 0), 16);
    is("r held below", x.law(0, -1, 0, 0), 0);
    is("r any", x.law(0, Integer.MIN_VALUE, 0, 0), 0);
    is("10*c", x.law(1, 19, 5, 5), 190);
    is("10*c held above", x.law(1, 20, 0, 0), 199);
    is("10*c held below", x.law(1, -1, 0, 0), 0);
    is("10*c wraps to -10", x.law(1, Integer.MAX_VALUE, 0, 0), 0);
    is("10*c wraps to 4", x.law(1, 429496730, 0, 0), 4);
    Due.text(x, 1, "c");
    is("199", x.law(1, 199, 0, 0), 199);
    is("200", x.law(1, 200, 0, 0), 199);
    is("-1", x.law(1, -1, 0, 0), 0);
    Due.text(x, 0, "r");
    is("16", x.law(0, 16, 0, 0), 16);
    is("17", x.law(0, 17, 0, 0), 16);
    is("-5", x.law(0, -5, 0, 0), 0);
  }

  // Promise 16, the signs
  private static void lawSigns() {
    int min = Integer.MIN_VALUE;
    int max = Integer.MAX_VALUE;
    gives("c-b-p", 10, 3, 2, 5);
    gives("c/b/p", 100, 5, 2, 10);
    gives("c/b*p", 100, 7, 2, 28);
    gives("c%b*p", 17, 10, 3, 21);
    gives("c+b*p", 2, 3, 4, 14);
    gives("(c+b)*p", 2, 3, 4, 20);
    gives("c/b+100", 7, 0, 0, 100);
    gives("c%b+100", 7, 0, 0, 100);
    gives("c/b+100", -7, 2, 0, 97);
    gives("c%b+100", -7, 2, 0, 99);
    gives("c%b+100", 7, -4, 0, 103);
    gives("c/b=c", min, -1, 0, 1);
    gives("c%b+5", min, -1, 0, 5);
    gives("c*b", 65536, 65536, 0, 0);
    gives("c+1=b", max, min, 0, 1);
    gives("b-1=c", max, min, 0, 1);
    gives("c<b", 1, 2, 0, 1);
    gives("c<b", 2, 2, 0, 0);
    gives("c>b", 3, 2, 0, 1);
    gives("c>b", 2, 2, 0, 0);
    gives("c=b", 2, 2, 0, 1);
    gives("c=b", 2, 3, 0, 0);
    gives("c<b", min, max, 0, 1);
    gives("c|b", 0, 0, 0, 0);
    gives("c|b", 0, -5, 0, 1);
    gives("c|b", 6, 3, 0, 1);
    gives("c&b", 6, 9, 0, 1);
    gives("c&b", 1, 1, 0, 1);
    gives("c|b", 1, 1, 0, 1);
    gives("c&b", 6, 0, 0, 0);
    gives("c&b", 4, 3, 0, 1);
    gives("0&0|1", 0, 0, 0, 1);
    gives("1|1&0", 0, 0, 0, 1);
    gives("c|b&p", 1, 0, 0, 1);
    gives("(c|b)&p", 1, 0, 0, 0);
    gives("(c&b)+(c<b)*2+(b>c)*4", 1, 2, 0, 7);
    gives("1<2&2<1", 0, 0, 0, 0);
    gives("1+1<3", 0, 0, 0, 1);
    gives("!c", 0, 0, 0, 1);
    gives("!c", -3, 0, 0, 0);
    gives("!!c", -3, 0, 0, 1);
    gives("!c+5", 0, 0, 0, 6);
    gives("!(c+5)", 0, 0, 0, 0);
    gives("!c*7", 0, 0, 0, 7);
    gives("7*!c", 0, 0, 0, 7);
    gives("0012", 0, 0, 0, 12);
    gives("9999/60", 0, 0, 0, 166);
    gives("c", 77, 1, 2, 77);
    gives("((c))", 77, 1, 2, 77);
  }

  private static void gives(String text, int a, int b, int c, int want) {
    NineBreakages x = new NineBreakages();
    is("text " + text, Due.text(x, 1, text), 1);
    is(text + " of " + a + ", " + b + ", " + c, x.law(1, a, b, c), want);
  }

  // Promise 17
  private static void days() {
    NineBreakages x = with(0, 9, 9);
    for (int v : new int[] {-1, 0, 61, Integer.MIN_VALUE, Integer.MAX_VALUE}) {
      is("days " + v, x.days(v), BEYOND);
    }
    is("a day", x.days(1), 1);
    is("sixty", x.days(60), 61);
    is("nothing breaks", x.count(3), 0);
    is("z stays", x.count(7), 1);
    for (int i = 0; i < 165; i++) {
      x.days(60);
    }
    is("9961", x.count(2), 9961);
    is("too late", x.days(39), STATE);
    is("BEYOND ahead of STATE", x.days(61), BEYOND);
    is("it stays", x.count(2), 9961);
    is("the last", x.days(38), 9999);
    is("no more", x.days(1), STATE);
    is("nor by draws", x.loose(1), STATE);
  }

  // Promise 18
  private static void loose() {
    NineBreakages x = with(0, 9, 9, 69, 0);
    x.minds(0, 9);
    for (int v : new int[] {-1, 0, 31, Integer.MIN_VALUE, Integer.MAX_VALUE}) {
      is("loose " + v, x.loose(v), BEYOND);
    }
    is("no day", x.count(2), 0);
    is("no draw", x.count(7), 1);
    int z = 1;
    int[] risk = {10, 0, 1};
    int broke = 0;
    boolean[] whole = {true, true, true};
    for (int i = 0; i < 3; i++) {
      z = z * 1103515245 + 12345;
      if ((z >>> 8) % 16 < risk[i]) {
        whole[i] = false;
        broke++;
      }
    }
    is("a day by draws", x.loose(1), broke);
    is("z behind three draws", x.count(7), z);
    is("a day is gone", x.count(2), 1);
    for (int i = 0; i < 3; i++) {
      is("whole " + i, x.pieceIs(i, 3), whole[i] ? 0 : 1);
    }
    NineBreakages y = with(0, 0, 9);
    is("one who is through", y.loose(30), 0);
    is("no draws then", y.count(7), 1);
    is("thirty days", y.count(2), 30);
    y.person(0, 5);
    y.lend(0, 1);
    y.wall(0, 1);
    is("a walled one", y.loose(1), 0);
    is("no draws for it", y.count(7), 1);
    y.wall(0, 0);
    y.become(0, 9);
    y.minds(1, 0);
    is("risk 16 always", y.loose(1), 1);
    is("had", y.personIs(1, 2), 1);
    is("a broken one", y.loose(30), 0);
    is("one draw in all", y.count(7), 1103515245 + 12345);
    NineBreakages late = with(0, 9, 9);
    for (int i = 0; i < 166; i++) {
      late.days(60);
    }
    late.days(10);
    is("9970", late.count(2), 9970);
    is("too late", late.loose(30), STATE);
    is("BEYOND ahead of STATE", late.loose(31), BEYOND);
    is("nothing broke", late.count(3), 0);
    is("29 go", late.loose(29), 1);
    is("9999", late.count(2), 9999);
  }

  /** Within a day: through by the one ahead, a saucer that counts by the shard ahead. */
  private static void looseInTurn() {
    NineBreakages x = with(0, 1, 9, 8, 7);
    is("only till through", x.loose(5), 1);
    is("one draw", x.count(7), 1103515245 + 12345);
    is("the next is whole", x.pieceIs(1, 3), 0);
    NineBreakages y = with(0, 9, 49, 49);
    is("both break", y.loose(1), 2);
    is("the second counts", y.personIs(0, 2), 1);
    NineBreakages jugs = with(0, 1, 69, 69);
    is("jugs break and don't count", jugs.loose(1), 2);
    is("none had", jugs.personIs(0, 2), 0);
    NineBreakages many = with(0, 9, 29, 24);
    is("risk 9 and 7", many.risk(0, 0) * 100 + many.risk(1, 0), 907);
    many.image();
    for (int seed : new int[] {12, -1, 77, -123456789, Integer.MIN_VALUE, Integer.MAX_VALUE, 99, 4711, 815}) {
      many.restore();
      many.seed(seed);
      int[] want = byDraws(seed, 1, new int[] {9, 7});
      is("a day", many.loose(1), want[0]);
      is("z behind a day", many.count(7), want[1]);
      many.restore();
      many.seed(seed);
      want = byDraws(seed, 4, new int[] {9, 7});
      is("four days", many.loose(4), want[0]);
      is("z behind four days", many.count(7), want[1]);
    }
    NineBreakages tureen = with(0, 9, 9, 53);
    Due.text(tureen, 0, "(r=7)*16+(r=19)*16");
    is("a tureen's risk is of the shards ahead in the day", tureen.loose(1), 2);
  }

  private static int[] byDraws(int seed, int days, int[] risks) {
    int z = seed;
    int broke = 0;
    boolean[] gone = new boolean[risks.length];
    for (int day = 0; day < days; day++) {
      for (int i = 0; i < risks.length; i++) {
        if (!gone[i]) {
          z = z * 1103515245 + 12345;
          if ((z >>> 8) % 16 < risks[i]) {
            gone[i] = true;
            broke++;
          }
        }
      }
    }
    return new int[] {broke, z};
  }

  // Promise 19
  private static void seed() {
    NineBreakages x = new NineBreakages();
    is("seed", x.seed(77), 1);
    is("seed any", x.seed(Integer.MIN_VALUE), 77);
    is("seed again", x.seed(BEYOND), Integer.MIN_VALUE);
    is("looks like an error", x.seed(0), BEYOND);
    is("but is none", x.told(1), 0);
    is("z", x.count(7), 0);
  }

  // Promise 20
  private static void left() {
    NineBreakages x = with(4, 3, 5, 23, 38, 40, 60, 13);
    x.person(2, 2);
    x.piece(0, 1);
    x.days(1);
    is("set", x.left(0, 0), 0b100001);
    is("many", x.left(0, 1), 2);
    is("to come", x.left(0, 2), 3);
    is("the other's", x.left(1, 0), 0b1000000);
    x.wall(5, 1);
    is("not the walled", x.left(0, 0), 1);
    x.drop(0);
    is("not the broken, but the saucer", x.left(0, 0), 0b1000);
    is("to come 2", x.left(0, 2), 2);
    x.days(1);
    is("the boat", x.left(0, 0), 0b1010);
    x.drop(6);
    x.person(0, 0);
    is("to come 1", x.left(1, 2), 1);
    is("none", x.left(1, 0), 0);
    is("none many", x.left(1, 1), 0);
    is("through", x.left(2, 2), 0);
    x.lend(1, 2);
    x.drop(1);
    is("0 at least", x.left(2, 2), 0);
    is("had", x.personIs(2, 2), 1);
    for (int v : new int[] {-1, 3, Integer.MIN_VALUE, Integer.MAX_VALUE}) {
      is("left what " + v, x.left(0, v), BEYOND);
      is("left person " + v, x.left(v, 0), BEYOND);
    }
  }

  private static void fraction(NineBreakages x, int person, int n, long above, long below) {
    is("odds above " + n, x.odds(person, n, 0), above);
    is("odds below " + n, x.odds(person, n, 1), below);
  }

  // Promise 21
  private static void odds() {
    NineBreakages x = with(4, 3);
    fraction(x, 0, 0, 1, 1);
    fraction(x, 0, 1, 0, 1);
    x.piece(2, 0);
    fraction(x, 0, 0, 1, 2);
    fraction(x, 0, 1, 1, 2);
    fraction(x, 0, 2, 0, 1);
    x.piece(13, 0);
    is("risks", x.risk(0, 0) * 100 + x.risk(1, 0), 812);
    fraction(x, 0, 0, 1, 8);
    fraction(x, 0, 1, 1, 2);
    fraction(x, 0, 2, 3, 8);
    x.piece(9, 0);
    x.minds(0, 3);
    is("risk 16", x.risk(2, 0), 16);
    fraction(x, 0, 0, 0, 1);
    is("as sure as it is", x.odds(0, 1, 0), 7 * 3);
    is("of 256", x.odds(0, 1, 1), 256);
    NineBreakages nine = with(9, 0, 0, 0, 0, 0, 0, 0, 0, 0, 0);
    fraction(nine, 0, 9, 1, 1L << 36);
    fraction(nine, 0, 0, 38443359375L, 1L << 36);
    fraction(nine, 0, 1, 9 * 2562890625L, 1L << 36);
    NineBreakages even = with(9, 0, 7, 7, 7, 7, 7, 7, 7, 7, 7);
    fraction(even, 0, 0, 1, 512);
    fraction(even, 0, 4, 63, 256);
    NineBreakages sure = with(0, 0, 9, 9, 9, 9, 9, 9, 9, 9, 9);
    fraction(sure, 0, 9, 1, 1);
    fraction(sure, 0, 8, 0, 1);
    nine.person(0, 3);
    fraction(nine, 1, 0, 1, 1);
    nine.lend(4, 1);
    fraction(nine, 1, 1, 5, 8);
    for (int v : new int[] {-1, 10, Integer.MIN_VALUE, Integer.MAX_VALUE}) {
      is("odds n " + v, x.odds(0, v, 0), BEYOND);
    }
    for (int v : new int[] {-1, 2, Integer.MIN_VALUE, Integer.MAX_VALUE}) {
      is("odds part " + v, x.odds(0, 0, v), BEYOND);
      is("odds person " + v, x.odds(v, 0, 0), BEYOND);
    }
    is("nothing came of it", x.count(3) + x.count(2), 0);
  }

  // Promise 22
  private static void through() {
    NineBreakages x = with(4, 2, 2, 13);
    is("both break above", x.through(0, 0), 3);
    is("both break below", x.through(0, 1), 8);
    x.piece(2, 0);
    is("two or three above", x.through(0, 0), 5);
    is("two or three below", x.through(0, 1), 8);
    x.drop(0);
    is("one more above", x.through(0, 0), 7);
    is("one more below", x.through(0, 1), 8);
    x.drop(1);
    is("through above", x.through(0, 0), 1);
    is("through below", x.through(0, 1), 1);
    x.drop(2);
    is("more than told above", x.through(0, 0), 1);
    is("more than told below", x.through(0, 1), 1);
    NineBreakages all = with(9, 9, 1, 1, 1, 1, 1, 1, 1, 1, 1);
    is("all nine above", all.through(0, 0), 1);
    is("all nine below", all.through(0, 1), 1L << 27);
    x.person(0, 9);
    is("never above", x.through(1, 0), 0);
    is("never below", x.through(1, 1), 1);
    for (int v : new int[] {-1, 2, Integer.MIN_VALUE, Integer.MAX_VALUE}) {
      is("through part " + v, x.through(0, v), BEYOND);
      is("through person " + v, x.through(v, 0), BEYOND);
    }
  }

  // Promise 23
  private static void safest() {
    NineBreakages x = with(4, 2, 5, 60, 39);
    is("the only one", x.safest(0, 0), 0);
    x.person(8, 2);
    x.person(8, 2);
    x.person(9, 2);
    x.person(7, 2);
    is("who", x.safest(0, 0), 3);
    is("risk", x.safest(0, 1), 6);
    is("a jug: the least of several", x.safest(1, 0), 1);
    is("a jug's", x.safest(1, 1), 0);
    Due.text(x, 0, "(c=8)*3+!(c=8)*9");
    is("by text who", x.safest(2, 0), 1);
    is("by text risk", x.safest(2, 1), 3);
    for (int v : new int[] {-1, 3, Integer.MIN_VALUE, Integer.MAX_VALUE}) {
      is("safest piece " + v, x.safest(v, 0), BEYOND);
    }
    for (int v : new int[] {-1, 2, Integer.MIN_VALUE, Integer.MAX_VALUE}) {
      is("safest what " + v, x.safest(0, v), BEYOND);
    }
    is("its owner stays", x.pieceIs(0, 2), 0);
  }

  // Promise 24
  private static void saves() {
    NineBreakages x = with(4, 3, 60, 5, 23, 12, 1, 2);
    x.days(1);
    is("left", x.left(0, 0), 0b111010);
    is("many", x.saves(0, 0), 2);
    is("the least set", x.saves(0, 1), 0b001010);
    x.wall(1, 1);
    is("one walled", x.saves(0, 0), 1);
    is("the next", x.saves(0, 1), 0b001000);
    x.wall(3, 1);
    is("none", x.saves(0, 0), 0);
    is("no set", x.saves(0, 1), 0);
    x.wall(4, 1);
    is("fewer are as well", x.saves(0, 0), 0);
    is("no set still", x.saves(0, 1), 0);
    x.wall(4, 0);
    x.drop(4);
    is("two to come, one left", x.saves(0, 0), 0);
    x.wall(1, 0);
    is("two left", x.saves(0, 1), 0b000010);
    x.drop(5);
    is("one to come: all are to be walled", x.saves(0, 1), 0b000010);
    x.drop(1);
    is("through", x.saves(0, 0), STATE);
    is("BEYOND ahead of STATE", x.saves(0, 2), BEYOND);
    for (int v : new int[] {-1, 2, Integer.MIN_VALUE, Integer.MAX_VALUE}) {
      is("saves what " + v, x.saves(0, v), BEYOND);
      is("saves person " + v, x.saves(v, 0), BEYOND);
    }
    is("none walled by it", x.pieceIs(2, 3), 0);
    NineBreakages all = with(4, 1, 1, 1, 1, 1, 1, 1, 1, 1, 1);
    is("all nine", all.saves(0, 0), 9);
    is("all nine, the set", all.saves(0, 1), 511);
  }

  // Promise 25
  private static void counts() {
    NineBreakages x = with(4, 3, 5, 24, 25, 38, 40, 54, 60, 54);
    is("a piece", x.counts(0), 0);
    is("a boat on an even day", x.counts(1), 0);
    is("a plate of 8", x.counts(3), NONE);
    is("a saucer", x.counts(4), NONE);
    is("a jug", x.counts(6), NONE);
    x.days(1);
    is("a boat on an odd day", x.counts(1), 1);
    is("a boat of 5", x.counts(2), 0);
    is("a tureen on an odd day", x.counts(5), 1);
    x.drop(0);
    is("a broken one", x.counts(0), 0);
    is("a saucer behind a shard", x.counts(4), 0);
    is("the day stays", x.count(2), 1);
    x.days(60);
    x.days(40);
    is("a tureen on 101", x.counts(5), 0);
    is("a boat on 101", x.counts(1), 1);
    for (int v : new int[] {-1, 8, 9, Integer.MIN_VALUE, Integer.MAX_VALUE}) {
      is("counts piece " + v, x.counts(v), BEYOND);
    }
  }

  // Promise 26
  private static void fits() {
    NineBreakages x = with(4, 3, 5, 65);
    is("missing", x.fits(0, 0, 0), NONE);
    is("missing, what 1", x.fits(0, 0, 1), NONE);
    is("BEYOND ahead of NONE", x.fits(0, 1, 0), BEYOND);
    is("what ahead of NONE", x.fits(0, 0, 2), BEYOND);
    x.sheet(0, 8, 1);
    is("risk 0 of none", x.fits(0, 0, 0), 0);
    is("no least", x.fits(0, 0, 1), NONE);
    x.put(0, 0, 8);
    is("care 7", x.fits(0, 0, 0), 1 << 7);
    is("the least is 7", x.fits(0, 0, 1), 7);
    x.sheet(0, 16, 2);
    x.put(0, 0, 7);
    is("care 8, and a jug of 0", x.fits(0, 0, 0), 1 << 8);
    x.put(0, 1, 1);
    is("a jug of 1", x.fits(0, 0, 0), 0);
    Due.text(x, 0, "c/3");
    x.sheet(0, 32, 1);
    x.put(0, 0, 1);
    is("several", x.fits(0, 0, 0), 0b111000);
    is("the least of several", x.fits(0, 0, 1), 3);
    x.put(0, 0, 3);
    is("care 9 too", x.fits(0, 0, 0), 1 << 9);
    x.sheet(0, 8, 3);
    is("more numbers than pieces", x.fits(0, 0, 0), 0);
    x.sheet(0, 8, 0);
    is("no numbers", x.fits(0, 0, 0), 1023);
    is("no numbers, the least", x.fits(0, 0, 1), 0);
    is("care stays", x.personIs(0, 0), 4);
    for (int v : new int[] {-1, 4, Integer.MIN_VALUE, Integer.MAX_VALUE}) {
      is("fits sheet " + v, x.fits(v, 0, 0), BEYOND);
      is("fits person " + v, x.fits(0, v, 0), BEYOND);
      is("fits what " + v, x.fits(0, 0, v), BEYOND);
    }
  }

  private static void says(int piece, int km, int voice, int x, int want, long... bodies) {
    NineBreakages house = with(4, 3, 0, 0, 0, 0, 0, 0, 0, 0, 0);
    house.become(piece, km);
    is(km + " says " + voice + " of " + x, house.voice(piece, voice, x), want);
    row(km + "'s trace of " + voice, trace(house), bodies);
  }

  // Promise 27, and THE TRACE of 28
  private static void voice() {
    says(2, 5, 0, 7, 9, 10);
    says(2, 5, 1, 7, 18, 11, 10);
    says(2, 5, 2, 7, 13, 12, 11, 10);
    says(2, 5, 3, 7, 2, 13);
    says(2, 5, 3, -7, -2, 13);
    says(2, 15, 0, 7, 5, 20, 10);
    says(2, 15, 1, 7, 10, 11, 20, 10);
    says(2, 15, 2, 7, 5, 12, 11, 20, 10);
    says(2, 15, 3, 7, 0, 21, 13, 11, 20, 10);
    says(2, 25, 0, 7, 9, 10);
    says(2, 25, 1, 7, -18, 30, 11, 10);
    says(2, 25, 2, 7, -23, 12, 30, 11, 10);
    says(2, 25, 3, 7, 2, 13);
    says(2, 35, 1, 7, 18, 11, 10);
    says(2, 35, 2, 7, 5, 40, 12, 11, 10);
    says(2, 35, 2, -7, -7, 40, 12, 11, 10);
    says(2, 45, 0, 7, 15, 50, 20, 10);
    says(2, 45, 1, 7, 30, 11, 50, 20, 10);
    says(2, 45, 2, 7, 25 ^ 2, 51, 12, 11, 50, 20, 10);
    says(2, 45, 2, 8, 31 ^ 2, 51, 12, 11, 50, 20, 10);
    says(2, 45, 3, 7, -4, 21, 13, 11, 50, 20, 10);
    says(2, 55, 0, 7, 9, 10);
    says(2, 55, 1, 7, -20, 60, 30, 11, 10);
    says(2, 55, 2, 7, -25, 12, 60, 30, 11, 10);
    says(2, 55, 3, 7, 2, 13);
    says(2, 65, 0, 7, 9, 70);
    says(2, 65, 1, 7, 23, 71, 11, 70);
    says(2, 65, 2, 7, 18, 12, 71, 11, 70);
    says(2, 65, 3, 7, 2, 13);
    says(0, 0, 0, Integer.MIN_VALUE, Integer.MIN_VALUE, 10);
    says(8, 0, 0, Integer.MAX_VALUE, Integer.MIN_VALUE + 7, 10);
    says(1, 0, 3, Integer.MIN_VALUE, Integer.MIN_VALUE, 13);
    NineBreakages x = with(4, 3, 5);
    for (int v : new int[] {-1, 4, Integer.MIN_VALUE, Integer.MAX_VALUE}) {
      is("voice " + v, x.voice(0, v, 0), BEYOND);
    }
    for (int v : new int[] {-1, 1, Integer.MIN_VALUE, Integer.MAX_VALUE}) {
      is("voice of piece " + v, x.voice(v, 0, 0), BEYOND);
    }
    is("any number", x.voice(0, 0, BEYOND), BEYOND);
    is("that is no error", x.told(1), 8);
  }

  /** Promise 27: PARTED, and what had begun by then. */
  private static void parted() {
    NineBreakages x = with(4, 3, 0, 11, 2, 43);
    is("a piece", x.voice(0, 3, 7), PARTED);
    row("its trace", trace(x), 13);
    is("a cup", x.voice(1, 3, 7), PARTED);
    row("its trace", trace(x), 21, 13);
    is("a saucer", x.voice(3, 3, 7), PARTED);
    is("three", x.told(6), 3);
    is("the other voices go on", x.voice(0, 2, 7), 14);
    is("and parts that part", x.voice(0, 3, 0), PARTED);
    x.become(0, 1);
    is("no more", x.voice(0, 3, 7), 7);
    is("four in all", x.told(6), 4);
  }

  // Promise 28
  private static void body() {
    NineBreakages x = with(4, 3, 5);
    is("none yet", x.body(0), NONE);
    x.voice(0, 2, 1);
    is("0", x.body(0), 12);
    is("1", x.body(1), 11);
    is("2", x.body(2), 10);
    for (int v : new int[] {-1, 3, 29, 30, Integer.MIN_VALUE, Integer.MAX_VALUE}) {
      is("body " + v, x.body(v), NONE);
    }
    x.voice(0, 0, 1);
    is("the latest", x.body(0), 10);
    is("no more of the one ahead", x.body(1), NONE);
    is("how many", x.count(6), 1);
    x.voice(0, 9, 1);
    is("an error leaves it", x.body(0), 10);
  }

  // Promise 29
  private static void sheet() {
    NineBreakages x = with(4, 3, 5, 5);
    for (int v : new int[] {-1, 4, Integer.MIN_VALUE, Integer.MAX_VALUE}) {
      is("sheet " + v, x.sheet(v, 8, 1), BEYOND);
      is("sheet ahead of n " + v, x.sheet(v, 8, -1), BEYOND);
    }
    for (int v : new int[] {-1, 1, 7, 24, 33, 64, Integer.MIN_VALUE, Integer.MAX_VALUE}) {
      is("bits " + v, x.sheet(0, v, 1), BEYOND);
      is("bits ahead of n " + v, x.sheet(0, v, -1), BEYOND);
    }
    for (int v : new int[] {-1, Integer.MIN_VALUE}) {
      is("n " + v, x.sheet(0, 8, v), STATE);
    }
    for (int v : new int[] {25, Integer.MAX_VALUE}) {
      is("n " + v, x.sheet(0, 8, v), BEYOND);
    }
    is("still missing", x.judge(0), NONE);
    for (int bits = 8; bits <= 32; bits *= 2) {
      is("bits " + bits, x.sheet(3, bits, 24), 1);
      is("the last", x.put(3, 23, 1), 1);
      is("no more", x.put(3, 24, 1), BEYOND);
    }
    is("all 0", x.judge(3), 2);
    x.put(3, 0, 1);
    is("not now", x.judge(3), 0);
    is("anew", x.sheet(3, 32, 2), 1);
    is("all 0 anew", x.judge(3), 2);
    is("wrong leaves it", x.sheet(3, 32, -1), STATE);
    is("it is there", x.judge(3), 2);
    is("of none", x.sheet(3, 16, 0), 1);
    is("none is right", x.judge(3), 0);
    is("missing", x.sheet(3, 0, -7), 1);
    is("it is", x.judge(3), NONE);
    is("missing twice", x.sheet(3, 0, 99), 1);
  }

  // Promise 30
  private static void put() {
    NineBreakages x = with(4, 3);
    for (int v : new int[] {-1, 4, Integer.MIN_VALUE, Integer.MAX_VALUE}) {
      is("put sheet " + v, x.put(v, 0, 0), BEYOND);
    }
    is("missing", x.put(0, 0, 0), NONE);
    is("missing ahead of i", x.put(0, -1, 0), NONE);
    x.sheet(0, 8, 1);
    x.sheet(1, 16, 1);
    x.sheet(2, 32, 1);
    for (int v : new int[] {-1, 1, Integer.MIN_VALUE, Integer.MAX_VALUE}) {
      is("put i " + v, x.put(0, v, 0), BEYOND);
    }
    is("put", x.put(0, 0, 7), 1);
    is("care", x.cares(0) * 10 + x.personIs(0, 0), 17);
    int[] lost = {1 << 8, 1 << 16, 0};
    for (int s = 0; s < 3; s++) {
      is("a low one", x.put(s, 0, lost[s] + 5), 1);
      is("its lowest bits", x.cares(s) * 10 + x.personIs(0, 0), 15);
      x.minds(0, 6);
      is("a high one", x.put(s, 0, 1 << (7 + 8 * s + (s == 2 ? 8 : 0))), 1);
      is("is not 0 to 9", x.cares(s) * 10 + x.personIs(0, 0), 6);
    }
    x.put(1, 0, (1 << 8) + 5);
    is("8 bits more", x.cares(1), 0);
    x.put(2, 0, (1 << 16) + 5);
    is("16 bits more", x.cares(2), 0);
  }

  // Promise 31
  private static void move() {
    NineBreakages x = with(0, 3);
    for (int i = 0; i < 4; i++) {
      x.person(0, 3);
    }
    for (int v : new int[] {-1, 4, Integer.MIN_VALUE, Integer.MAX_VALUE}) {
      is("move sheet " + v, x.move(v, 0, 0, 0, 0), BEYOND);
      is("move other " + v, x.move(0, 0, v, 0, 0), BEYOND);
    }
    is("both missing", x.move(0, 0, 1, 0, 0), NONE);
    x.sheet(0, 8, 5);
    is("other missing", x.move(0, -1, 1, 0, 0), NONE);
    is("one missing", x.move(1, 0, 0, 0, 0), NONE);
    x.sheet(1, 16, 5);
    is("unlike", x.move(0, -1, 1, 0, 0), KIND);
    x.sheet(1, 8, 3);
    for (int v : Due.WRONG_INTS) {
      is("move i " + v, x.move(0, v, 1, 0, 1), BEYOND);
      is("move j " + v, x.move(0, 0, 1, v, 1), BEYOND);
      is("move n " + v, x.move(0, 1, 1, 1, v), BEYOND);
    }
    is("too many there", x.move(0, 0, 1, 0, 4), BEYOND);
    is("too many here", x.move(1, 0, 0, 0, 4), BEYOND);
    is("too far here", x.move(0, 3, 1, 0, 3), BEYOND);
    is("too far there", x.move(0, 0, 1, 2, 2), BEYOND);
    is("none behind the last", x.move(0, 5, 1, 3, 0), 0);
    is("none farther", x.move(0, 6, 1, 3, 0), BEYOND);
    is("none farther there", x.move(0, 5, 1, 4, 0), BEYOND);
    for (int i = 0; i < 5; i++) {
      x.put(0, i, i + 1);
    }
    is("to another", x.move(0, 2, 1, 1, 2), 2);
    row("another", sheetRow(x, 1, 3), 0, 3, 4);
    is("up the same", x.move(0, 0, 0, 1, 4), 4);
    row("as they all were", sheetRow(x, 0, 5), 1, 1, 2, 3, 4);
    is("down the same", x.move(0, 1, 0, 0, 4), 4);
    row("down", sheetRow(x, 0, 5), 1, 2, 3, 4, 4);
  }

  /** The first numbers of a sheet, as the care that people get by them. */
  private static long[] sheetRow(NineBreakages x, int sheet, int n) {
    long[] row = new long[n];
    is("cares", x.cares(sheet), n);
    for (int i = 0; i < n; i++) {
      row[i] = x.personIs(i, 0);
    }
    return row;
  }

  // Promise 32
  private static void cares() {
    NineBreakages x = with(4, 3);
    x.person(5, 5);
    x.person(6, 6);
    for (int v : new int[] {-1, 4, Integer.MIN_VALUE, Integer.MAX_VALUE}) {
      is("cares " + v, x.cares(v), BEYOND);
    }
    is("missing", x.cares(0), NONE);
    x.sheet(0, 8, 5);
    x.put(0, 0, 9);
    x.put(0, 1, 10);
    is("up to 10", x.cares(0), 1);
    is("9", x.personIs(0, 0), 9);
    is("as it was", x.personIs(1, 0), 5);
    is("the next too", x.personIs(2, 0), 6);
    x.put(0, 1, -1);
    is("up to -1", x.cares(0), 1);
    x.put(0, 1, 1);
    is("up to nobody", x.cares(0), 3);
    is("1", x.personIs(1, 0), 1);
    is("0", x.personIs(2, 0), 0);
    x.sheet(0, 8, 1);
    is("a short one", x.cares(0), 1);
    is("the rest stays", x.personIs(1, 0), 1);
    is("no error", x.told(1) * 10 + x.told(2), 41);
  }

  // Promise 33
  private static void judge() {
    NineBreakages x = with(4, 3, 1, 1, 1);
    for (int v : new int[] {-1, 4, Integer.MIN_VALUE, Integer.MAX_VALUE}) {
      is("judge " + v, x.judge(v), BEYOND);
    }
    is("missing", x.judge(0), NONE);
    x.drop(1);
    x.wall(2, 1);
    x.sheet(0, 32, 4);
    is("first", x.judge(0), 1);
    x.put(0, 1, 1);
    is("two", x.judge(0), 2);
    x.put(0, 2, 2);
    is("three, and no piece", x.judge(0), 3);
    x.put(0, 0, 1);
    is("only from the first on", x.judge(0), 0);
    x.sheet(0, 32, 1);
    is("a short one", x.judge(0), 1);
  }

  // Promise 34
  private static void image() {
    NineBreakages x = with(4, 3, 1, 1);
    is("image", x.image(), 1);
    x.drop(0);
    is("image again", x.image(), 2);
    x.drop(1);
    x.restore();
    is("the later one", x.count(3), 1);
    is("how often is not kept", x.image(), 3);
    x.restore();
    is("nor brought back", x.image(), 4);
  }

  private static void imageKeepsAll() {
    NineBreakages x = with(4, 3, 1, 12);
    Due.text(x, 0, "7");
    x.days(3);
    x.seed(5);
    x.tell(0);
    x.tell(7);
    Due.feed(x, "1+2");
    x.wall(1, 1);
    x.sheet(0, 8, 1);
    x.voice(0, 0, 0);
    x.image();
    Due.feed(x, "+c");
    x.text(1);
    Due.feed(x, "99999");
    x.untell(0);
    x.days(1);
    x.seed(6);
    x.tell(1);
    x.check();
    x.tell(9);
    x.drop(0);
    x.wall(1, 0);
    x.become(1, 33);
    x.person(1, 1);
    x.piece(0, 1);
    x.lend(0, 1);
    x.minds(0, 9);
    x.sheet(0, 8, 0);
    x.voice(0, 1, 0);
    x.voice(9, 1, 0);
    is("day", x.restore(), 3);
    is("pieces", x.count(0), 2);
    is("people", x.count(1), 1);
    is("shards", x.count(3), 0);
    is("tape", x.count(4), 3);
    is("waiting", x.count(5), 2);
    is("z", x.count(7), 5);
    is("care", x.personIs(0, 0), 4);
    is("had", x.personIs(0, 2), 0);
    is("owner", x.pieceIs(0, 2), 0);
    is("kind", x.pieceIs(1, 0), 1);
    is("m", x.pieceIs(1, 1), 2);
    is("walled", x.pieceIs(1, 3), 2);
    is("text 0", x.law(0, 0, 0, 0), 7);
    is("text 1", x.untell(1), 0);
    is("what waits", x.check(), 2);
    is("the tape's bytes", x.text(1), 1);
    is("1+2", x.law(1, 0, 0, 0), 3);
    is("sheets are not kept", x.put(0, 0, 0), BEYOND);
    is("nor the trace", x.body(0), 11);
    is("nor what is told", x.told(1), 2);
  }

  // Promise 35
  private static void restore() {
    NineBreakages x = with(4, 3, 1);
    x.days(2);
    is("none", x.restore(), NONE);
    is("nothing changed", x.count(2), 2);
    x.image();
    x.drop(0);
    x.days(5);
    is("restore", x.restore(), 2);
    is("whole", x.pieceIs(0, 3), 0);
    x.drop(0);
    is("it stays", x.restore(), 2);
    is("whole again", x.pieceIs(0, 3), 0);
    is("had none", x.personIs(0, 2), 0);
    Due.text(x, 0, "1");
    x.image();
    Due.text(x, 0, "2");
    x.restore();
    Due.text(x, 0, "3");
    x.restore();
    is("the text that it has", x.law(0, 0, 0, 0), 1);
  }

  // Promise 36
  private static void tell() {
    NineBreakages x = new NineBreakages();
    for (int i = 1; i <= 24; i++) {
      is("tell " + i, x.tell(i * 100000000), i);
    }
    is("full", x.tell(0), FULL);
    is("24 wait", x.count(5), 24);
    x.check();
    is("from the first", x.tell(0), 1);
  }

  // Promise 37
  private static void check() {
    NineBreakages x = with(4, 3, 1, 2, 3);
    x.person(4, 3);
    x.drop(0);
    x.drop(1);
    is("none waits", x.check(), 0);
    x.tell(2);
    is("one", x.check(), 0);
    is("none waits then", x.count(5), 0);
    x.tell(2);
    x.tell(0);
    is("both", x.check(), 0);
    x.tell(1);
    x.tell(1);
    is("the first is wrong", x.check(), 1);
    is("none waits then either", x.count(5), 0);
    x.tell(2);
    x.tell(1);
    x.tell(0);
    is("the second is wrong", x.check(), 2);
    x.tell(2);
    x.tell(0);
    x.tell(0);
    is("nobody", x.check(), 3);
  }

  // Promise 38
  private static void count() {
    NineBreakages x = with(4, 3, 1, 2, 3);
    x.person(4, 3);
    x.days(9);
    x.drop(1);
    x.wall(2, 1);
    Due.feed(x, "1+2+3");
    x.tell(1);
    x.tell(1);
    x.tell(1);
    x.tell(1);
    x.voice(0, 2, 0);
    x.seed(BEYOND);
    int[] want = {3, 2, 9, 1, 5, 4, 3, BEYOND};
    for (int what = 0; what < 8; what++) {
      is("count " + what, x.count(what), want[what]);
    }
    is("z is no error", x.told(1), 0);
    for (int v : new int[] {-1, 8, Integer.MIN_VALUE, Integer.MAX_VALUE}) {
      is("count " + v, x.count(v), BEYOND);
    }
  }

  // Promise 39
  private static void told() {
    NineBreakages x = with(4, 3, 0);
    x.count(9);
    is("BEYOND", x.told(1), 1);
    x.odds(9, 0, 0);
    x.through(9, 0);
    is("BEYOND in longs", x.told(1), 3);
    x.restore();
    x.body(0);
    is("NONE", x.told(2), 2);
    x.drop(0);
    x.drop(0);
    is("STATE", x.told(3), 1);
    for (int i = 0; i < 25; i++) {
      x.tell(0);
    }
    is("FULL", x.told(4), 1);
    x.as(0, 1);
    is("KIND", x.told(5), 1);
    x.voice(0, 3, 1);
    is("PARTED", x.told(6), 1);
    for (int v : new int[] {-1, 0, 7, Integer.MIN_VALUE, Integer.MAX_VALUE}) {
      is("told " + v, x.told(v), BEYOND);
    }
    is("counted too", x.told(1), 8);
  }

  /** Each act that answers an ERROR is counted, by that ERROR alone. */
  private static void toldByEachAct() {
    NineBreakages x = with(4, 3, 0, 0);
    x.drop(1);
    x.person(4, 0);
    x.sheet(0, 8, 1);
    x.sheet(1, 16, 1);
    counted(x, 1, x.person(10, 0), x.personIs(9, 0), x.personIs(0, 9), x.piece(70, 0), x.pieceIs(9, 0));
    counted(x, 1, x.pieceIs(0, 9), x.become(9, 0), x.as(9, 0), x.minds(9, 0), x.lend(9, 0), x.wall(9, 0));
    counted(x, 1, x.risk(9, 0), x.drop(9), x.feed(0, 9), x.text(9), x.untell(9), x.law(9, 0, 0, 0), x.days(0));
    counted(x, 1, x.loose(0), x.left(9, 0), x.left(0, 9), x.odds(9, 0, 0), x.through(9, 0), x.safest(9, 0));
    counted(x, 1, x.saves(9, 0), x.counts(9), x.fits(9, 0, 0), x.voice(9, 0, 0), x.sheet(9, 0, 0));
    counted(x, 1, x.sheet(0, 8, 25), x.put(9, 0, 0), x.put(0, 9, 0), x.move(9, 0, 0, 0, 0), x.move(0, 9, 0, 0, 0));
    counted(x, 1, x.cares(9), x.judge(9), x.count(9), x.told(9));
    counted(x, 2, x.fits(3, 0, 0), x.body(9), x.put(3, 0, 0), x.move(0, 0, 3, 0, 0), x.cares(3), x.judge(3));
    x.sheet(2, 8, 1);
    x.become(0, 69);
    x.put(2, 0, 99);
    counted(x, 2, x.restore(), x.counts(0), x.fits(2, 0, 1));
    counted(x, 3, x.wall(1, 0), x.drop(1), x.saves(1, 0), x.sheet(0, 8, -1));
    counted(x, 5, x.as(0, 1), x.move(0, 0, 1, 0, 1));
    x.become(1, 1);
    counted(x, 6, x.voice(1, 3, 0));
    for (int i = 0; i < 170; i++) {
      x.days(60);
    }
    is("STATE by days", x.told(3), 4 + 4);
    NineBreakages full = with(0, 0);
    for (int i = 0; i < 30; i++) {
      full.piece(0, 0);
      full.person(0, 0);
      full.feed(0, 4);
      full.tell(0);
    }
    is("FULL", full.told(4), 21 + 26 + 15 + 6);
    NineBreakages late = with(0, 0);
    for (int i = 0; i < 166; i++) {
      late.days(60);
    }
    late.days(38);
    late.loose(1);
    is("no STATE yet", late.told(3), 0);
    late.loose(1);
    is("STATE by draws", late.told(3), 1);
  }

  private static void counted(NineBreakages x, int k, long... answers) {
    for (long answer : answers) {
      is("an ERROR " + k, answer, -1000000000L - k);
      errorsDue[k]++;
    }
    is("how many ERRORS " + k, x.told(k), errorsDue[k]);
  }

  private static final int[] errorsDue = new int[7];

  /** Numbers that look like an ERROR, and a FAULT, are none. */
  private static void toldIsOnlyErrors() {
    NineBreakages x = with(4, 3, 0);
    x.seed(BEYOND);
    x.count(7);
    x.seed(NONE);
    x.seed(STATE);
    x.voice(0, 0, FULL);
    x.voice(0, 0, PARTED);
    x.text(0);
    x.cares(x.sheet(1, 8, 2));
    x.check();
    for (int k = 1; k <= 6; k++) {
      is("told " + k, x.told(k), 0);
    }
  }
}
