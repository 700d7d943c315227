import java.io.IOException;
import java.lang.reflect.Constructor;
import java.lang.reflect.Field;
import java.lang.reflect.Method;
import java.lang.reflect.Modifier;
import java.nio.file.Files;
import java.nio.file.Path;
import java.util.Set;
import java.util.TreeSet;
import java.util.regex.Matcher;
import java.util.regex.Pattern;

/** The public face, and those rules of LANGUAGE.md that a look at the class and its source can tell. */
public final class LanguageTest {
  private static final String[] FACE = {
    "int person(int,int)", "int personIs(int,int)", "int piece(int,int)", "int pieceIs(int,int)",
    "int become(int,int)", "int as(int,int)", "int minds(int,int)", "int lend(int,int)", "int wall(int,int)",
    "int risk(int,int)", "int drop(int)", "int feed(long,int)", "int text(int)", "int untell(int)",
    "int law(int,int,int,int)", "int days(int)", "int loose(int)", "int seed(int)", "int left(int,int)",
    "long odds(int,int,int)", "long through(int,int)", "int safest(int,int)", "int saves(int,int)",
    "int counts(int)", "int fits(int,int,int)", "int voice(int,int,int)", "int body(int)", "int sheet(int,int,int)",
    "int put(int,int,int)", "int move(int,int,int,int,int)", "int cares(int)", "int judge(int)", "int image()",
    "int restore()", "int tell(int)", "int check()", "int count(int)", "int told(int)"
  };
  private static final String[] BANNED = {
    "throw", "throws", "try", "catch", "finally", "synchronized", "assert", "import", "package", "float", "double",
    "String", "Object", "record", "Random", "System\\.(?!arraycopy\\b)\\w+", "Math\\.\\w+Exact", "->", "::",
    "new\\s+\\w+\\s*(\\([^)]*\\))?\\s*\\{", "equals", "hashCode", "toString", "while\\s*\\(true\\)", "for\\s*\\(;;"
  };
  private static final int LINES_MOST = 60;

  public static void main(String[] args) throws IOException {
    face();
    classes();
    source(Files.readString(Path.of("src/main/java/NineBreakages.java")));
    Due.end("LanguageTest");
  }

  private static void yes(String what, boolean is) {
    Due.is(what, is ? 1 : 0, 1);
  }

  // Rule 1
  private static void face() {
    Class<?> c = NineBreakages.class;
    yes("public and final", Modifier.isPublic(c.getModifiers()) && Modifier.isFinal(c.getModifiers()));
    Set<String> methods = new TreeSet<>();
    for (Method m : c.getDeclaredMethods()) {
      if (Modifier.isPublic(m.getModifiers())) {
        methods.add(written(m));
      } else {
        yes("private " + m, Modifier.isPrivate(m.getModifiers()));
      }
    }
    for (String line : FACE) {
      yes("has " + line, methods.remove(line));
    }
    yes("no more than " + methods, methods.isEmpty());
    for (Field f : c.getDeclaredFields()) {
      yes("private " + f, Modifier.isPrivate(f.getModifiers()));
    }
    for (Constructor<?> made : c.getDeclaredConstructors()) {
      yes("public without arguments", Modifier.isPublic(made.getModifiers()) && made.getParameterCount() == 0);
    }
  }

  private static String written(Method m) {
    StringBuilder text = new StringBuilder(m.getReturnType() + " " + m.getName() + "(");
    for (Class<?> type : m.getParameterTypes()) {
      text.append(text.charAt(text.length() - 1) == '(' ? "" : ",").append(type);
    }
    return text.append(")").toString();
  }

  // Rules 1, 2, 5, 11
  private static void classes() {
    Set<String> publicNames = new TreeSet<>();
    for (Method m : NineBreakages.class.getMethods()) {
      publicNames.add(m.getName());
    }
    Class<?>[] inside = NineBreakages.class.getDeclaredClasses();
    yes("twelve classes", inside.length < 12);
    for (Class<?> c : inside) {
      yes("static " + c, Modifier.isStatic(c.getModifiers()) && !Modifier.isPublic(c.getModifiers()));
      for (Method m : c.getDeclaredMethods()) {
        yes("another name than " + m, !publicNames.contains(m.getName()));
        yes("seven parameters of " + m, m.getParameterCount() <= 7);
      }
      fields(c);
    }
    fields(NineBreakages.class);
  }

  private static void fields(Class<?> c) {
    int own = 0;
    for (Field f : c.getDeclaredFields()) {
      if (Modifier.isStatic(f.getModifiers())) {
        yes("final " + f, Modifier.isFinal(f.getModifiers()));
      } else {
        own++;
      }
    }
    yes("twenty fields of " + c, own <= 20);
  }

  // Rules 2, 3, 4, 6, 11
  private static void source(String source) {
    String code = source.replaceAll("/\\*(?s:.*?)\\*/", "").replaceAll("//.*", "");
    for (String banned : BANNED) {
      String whole = Character.isLetter(banned.charAt(0)) ? "\\b" + banned + "(?!\\w)" : banned;
      Matcher m = Pattern.compile(whole).matcher(code);
      yes("no " + banned, !m.find());
    }
    for (char sign : source.toCharArray()) {
      if (sign > 126) {
        yes("a sign " + (int) sign, false);
      }
    }
    methodsAreShort(source);
  }

  private static void methodsAreShort(String source) {
    int line = 0;
    int began = -1;
    String indent = "";
    for (String text : source.split("\n")) {
      line++;
      Matcher m = Pattern.compile("^( {2}| {4})\\w[^=;]*\\) \\{$").matcher(text);
      if (m.find()) {
        began = line;
        indent = m.group(1);
      } else if (text.equals(indent + "}") && began >= 0) {
        yes("short from line " + began, line - began < LINES_MOST);
        began = -1;
      }
    }
  }
}
