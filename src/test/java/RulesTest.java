import java.io.IOException;
import java.lang.management.ManagementFactory;
import java.lang.reflect.Constructor;
import java.lang.reflect.Field;
import java.lang.reflect.Method;
import java.lang.reflect.Modifier;
import java.nio.file.Files;
import java.nio.file.Path;
import java.util.ArrayList;
import java.util.List;
import java.util.regex.Matcher;
import java.util.regex.Pattern;

/** The face, the room, and what can be seen of LANGUAGE.md by looking at the class and its source. */
public final class RulesTest {
  private static final Check CHECK = new Check();
  private static final String[] FACE = {"int feed(int,int,int,int,int)", "int end(int)", "int store()",
      "int wishes()", "int fault(int)", "int row(int,int)", "int value(int,int)", "int holds(int,int)",
      "boolean gone(int)", "int least()", "boolean keep()", "int steady()", "int piece(int)", "int why(int)",
      "int order(int)", "int rings()", "boolean hide(int,int,int)", "int shown(int,int)",
      "int weight(int,int,boolean)", "int about(int)"};

  public static void main(String[] args) throws IOException {
    face();
    classes();
    source(Files.readString(Path.of("src/main/java/TruePiece.java")));
    room();
    CHECK.finish("RulesTest");
  }

  private static void face() {
    List<String> found = new ArrayList<>();
    for (Method method : TruePiece.class.getDeclaredMethods()) {
      if (!Modifier.isPrivate(method.getModifiers())) {
        CHECK.due(method + " is public", Modifier.isPublic(method.getModifiers()), true);
        CHECK.due(method + " is no static one", Modifier.isStatic(method.getModifiers()), false);
        found.add(told(method));
      }
    }
    for (String method : FACE) {
      CHECK.due("there is " + method, found.remove(method), true);
    }
    CHECK.due("others: " + found, found.size(), 0);
    for (Field field : TruePiece.class.getDeclaredFields()) {
      boolean shown = !Modifier.isPrivate(field.getModifiers());
      CHECK.due(field + " is not private", shown, field.getName().equals("NONE"));
    }
    Constructor<?>[] constructors = TruePiece.class.getDeclaredConstructors();
    CHECK.due("constructors", constructors.length, 1);
    CHECK.due("public one", Modifier.isPublic(constructors[0].getModifiers()), true);
    CHECK.due("its parameters", constructors[0].getParameterCount(), 0);
    int modifiers = TruePiece.class.getModifiers();
    CHECK.due("public and final", Modifier.isPublic(modifiers) && Modifier.isFinal(modifiers), true);
    CHECK.due("package", TruePiece.class.getPackageName().length(), 0);
    CHECK.due("NONE", TruePiece.NONE, -1);
  }

  private static String told(Method method) {
    StringBuilder told = new StringBuilder(method.getReturnType() + " " + method.getName() + "(");
    for (Class<?> type : method.getParameterTypes()) {
      told.append(told.charAt(told.length() - 1) == '(' ? "" : ",").append(type);
    }
    return told.append(')').toString();
  }

  private static void classes() {
    List<Class<?>> all = new ArrayList<>(List.of(TruePiece.class.getDeclaredClasses()));
    for (Class<?> inside : all) {
      CHECK.due(inside + " is static", Modifier.isStatic(inside.getModifiers()), true);
      CHECK.due(inside + " is hidden", Modifier.isPublic(inside.getModifiers()), false);
      CHECK.due(inside + " has none inside", inside.getDeclaredClasses().length, 0);
    }
    all.add(TruePiece.class);
    CHECK.due("at most twelve classes", all.size() <= 12, true);
    for (Class<?> one : all) {
      int own = 0;
      for (Field field : one.getDeclaredFields()) {
        boolean constant = Modifier.isStatic(field.getModifiers());
        CHECK.due(field + " is final if static", !constant || Modifier.isFinal(field.getModifiers()), true);
        own += constant ? 0 : 1;
      }
      CHECK.due(one + " has at most twenty fields", own <= 20, true);
      for (Method method : one.getDeclaredMethods()) {
        CHECK.due(method + " takes at most seven", method.getParameterCount() <= 7, true);
        boolean namesake = false;
        for (String face : FACE) {
          namesake |= face.contains(" " + method.getName() + "(");
        }
        CHECK.due(method + " has a name of the face", namesake, Modifier.isPublic(method.getModifiers()));
      }
    }
  }

  private static void source(String text) {
    String code = text.replaceAll("(?s)/\\*.*?\\*/", "").replaceAll("//[^\n]*", "");
    String[] banned = {"\\bthrow\\b", "\\bthrows\\b", "\\btry\\b", "\\bcatch\\b", "\\bsynchronized\\b", "\\bassert\\b",
        "->", "::", "\\bObject\\b", "\\bpackage\\b", "Exact\\b", "\\bSystem\\.(?!arraycopy)", "\\bhashCode\\b",
        "\\btoString\\b", "\\bnull\\b", "\\bThread\\b", "\\bRandom\\b", "\\bstatic \\{", "\\bprotected\\b", "\\bvar\\b"};
    for (String word : banned) {
      CHECK.due("the source has " + word, Pattern.compile(word).matcher(code).find(), false);
    }
    Matcher imports = Pattern.compile("import ([^;]*);").matcher(code);
    while (imports.find()) {
      CHECK.due("import of " + imports.group(1), imports.group(1).equals("java.util.Arrays"), true);
    }
    int start = 0;
    String[] lines = text.split("\n");
    for (int i = 0; i < lines.length; i++) {
      if (lines[i].matches("(  |    )[A-Za-z][^=;]*\\) \\{")) {
        start = i;
      }
      if (lines[i].matches("(  |    )\\}")) {
        CHECK.due("a method of at most sixty lines at " + (start + 1), i - start < 60 || start == 0, true);
        start = 0;
      }
      CHECK.due("line " + (i + 1) + " has at most 100 characters", lines[i].length() <= 100, true);
    }
  }

  /** What 512 of the dearest calls make must be small beside the room of 7.3 million elements. */
  private static void room() {
    TruePiece x = new TruePiece();
    int[] feed = {0x7461626c, 0x6520613a, 0x783b726f, 0x7720613a, 0x313b2020};
    for (int warm = 0; warm < 2; warm++) {
      allocated();
    }
    long before = allocated();
    // Six calls each: nothing is promised behind the 512th.
    for (int round = 0; round < 85; round++) {
      x.feed(feed[0], feed[1], feed[2], feed[3], feed[4]);
      x.store();
      x.wishes();
      x.least();
      x.steady();
      x.piece(0);
    }
    long made = allocated() - before;
    CHECK.due("bytes made by 510 calls are below 130000: " + made, made < 130000, true);
    before = allocated();
    TruePiece y = new TruePiece();
    made = allocated() - before;
    CHECK.due("bytes of an object are below 20000: " + made, made < 20000, true);
    CHECK.due("it is there", y.about(0), 0);
  }

  private static long allocated() {
    return ((com.sun.management.ThreadMXBean) ManagementFactory.getThreadMXBean()).getCurrentThreadAllocatedBytes();
  }
}
