/**
 * Every short text, and every short end of some longer ones: whether it is a TEXT, and else its FAULT, by the words of
 * the document alone: the place of the first byte with which no TEXT goes on. What a TEXT gives is as in the Model.
 */
public final class TextsTest {
  private static final String[] NAMES = {"rcd", "cbp"};
  private static final String SIGNS = "1rb!()|<+ ";
  private static final String MORE_SIGNS = "09dcp|&<=>+-*/%!()\0\n;,R\u00e9\u00b2\u00ff";
  private static final int OPEN_MOST = 5;
  private static final String[] BEGUN = {
    "((((", "!!!!", "(!(!", "!(!(c<1", "!!!!!c", "(((((c", "999", "1<(2>3)", "c-(c-"
  };

  private static NineBreakages x;
  private static Model model;
  private static int calls;

  private TextsTest() {}

  public static void main(String[] args) {
    for (int use = 0; use < 2; use++) {
      grow("", 6, SIGNS, use);
      grow("", 3, MORE_SIGNS, use);
      for (String begun : BEGUN) {
        grow(begun, 3, SIGNS, use);
        grow(begun, 2, MORE_SIGNS, use);
      }
      grow("c-1+".repeat(14), 4, SIGNS, use);
      grow("(c-1)*2+".repeat(7), 2, MORE_SIGNS, use);
    }
    Due.end("TextsTest");
  }

  /** Asks for a text with which some TEXT goes on, and for all by up to so many signs more. */
  private static void grow(String text, int more, String signs, int use) {
    ask(text, use, isText(text, use) ? -1 : text.length());
    for (int i = 0; i < signs.length() && more > 0; i++) {
      String next = text + signs.charAt(i);
      if (goesOn(next, use)) {
        grow(next, more - 1, signs, use);
      } else {
        ask(next, use, text.length());
        if (next.length() < 60) {
          ask(next + "1", use, text.length());
          ask(next + ")", use, text.length());
        }
      }
    }
  }

  /** Whether some TEXT begins so: a NUMBER and some ) more are enough if anything is. */
  private static boolean goesOn(String text, int use) {
    String closed = "";
    for (int i = 0; i <= OPEN_MOST; i++) {
      if (isText(text + closed, use) || isText(text + "1" + closed, use)) {
        return true;
      }
      closed += ")";
    }
    return false;
  }

  private static void ask(String text, int use, int fault) {
    if (calls % 40 == 0) {
      x = new NineBreakages();
      model = new Model();
    }
    calls++;
    int want = fault < 0 ? 1 : -10 - fault;
    String call = "text(" + use + ") of [" + text + "]";
    Due.is(call, Due.text(x, use, text), want);
    feedModel(text);
    Due.is("the Model's " + call, model.text(use), want);
    if (fault < 0) {
      Due.is("law by " + text, x.law(use, 5, -3, 2), model.law(use, 5, -3, 2));
    }
  }

  private static void feedModel(String text) {
    for (char sign : text.toCharArray()) {
      model.feed(sign, 1);
    }
  }

  private static boolean isText(String text, int use) {
    return isT(text, use, OPEN_MOST);
  }

  /** The place of the first sign of these that stands in no brackets, from a place on; -1 if there is none. */
  private static int outside(String text, String signs, int from) {
    int open = 0;
    for (int i = from; i < text.length(); i++) {
      char sign = text.charAt(i);
      open += sign == '(' ? 1 : sign == ')' ? -1 : 0;
      if (open == 0 && signs.indexOf(sign) >= 0) {
        return i;
      }
    }
    return -1;
  }

  private static boolean isT(String text, int use, int mayOpen) {
    int at = outside(text, "|", 0);
    return at < 0 ? isA(text, use, mayOpen)
        : isA(text.substring(0, at), use, mayOpen) && isT(text.substring(at + 1), use, mayOpen);
  }

  private static boolean isA(String text, int use, int mayOpen) {
    int at = outside(text, "&", 0);
    return at < 0 ? isB(text, use, mayOpen)
        : isB(text.substring(0, at), use, mayOpen) && isA(text.substring(at + 1), use, mayOpen);
  }

  private static boolean isB(String text, int use, int mayOpen) {
    int at = outside(text, "<=>", 0);
    return at < 0 ? isS(text, use, mayOpen)
        : isS(text.substring(0, at), use, mayOpen) && isS(text.substring(at + 1), use, mayOpen);
  }

  private static boolean isS(String text, int use, int mayOpen) {
    int at = outside(text, "+-", 0);
    return at < 0 ? isP(text, use, mayOpen)
        : isP(text.substring(0, at), use, mayOpen) && isS(text.substring(at + 1), use, mayOpen);
  }

  private static boolean isP(String text, int use, int mayOpen) {
    int at = outside(text, "*/%", 0);
    return at < 0 ? isQ(text, use, mayOpen)
        : isQ(text.substring(0, at), use, mayOpen) && isP(text.substring(at + 1), use, mayOpen);
  }

  private static boolean isQ(String text, int use, int mayOpen) {
    if (text.matches("[0-9]{1,4}")) {
      return true;
    }
    if (text.length() == 1) {
      return NAMES[use].contains(text);
    }
    if (text.isEmpty() || mayOpen == 0) {
      return false;
    }
    String rest = text.substring(1);
    if (text.charAt(0) == '!') {
      return isQ(rest, use, mayOpen - 1);
    }
    return text.charAt(0) == '(' && outside(text, ")", 0) == text.length() - 1
        && isT(rest.substring(0, rest.length() - 1), use, mayOpen - 1);
  }
}
