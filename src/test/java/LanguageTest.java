import java.lang.reflect.Array;
import java.lang.reflect.Constructor;
import java.lang.reflect.Field;
import java.lang.reflect.Method;
import java.lang.reflect.Modifier;
import java.nio.charset.StandardCharsets;
import java.nio.file.Files;
import java.nio.file.Path;
import java.util.ArrayList;
import java.util.Arrays;
import java.util.IdentityHashMap;
import java.util.List;
import java.util.Map;
import java.util.Set;
import java.util.TreeSet;
import java.util.regex.Matcher;
import java.util.regex.Pattern;

/** The rules of LANGUAGE.md that can be looked up in the source and in the compiled class. */
public final class LanguageTest {
  private static int wrong = 0;

  private static void rule(int number, boolean kept, String what) {
    if (!kept) {
      wrong++;
      System.out.println("rule " + number + ": " + what);
    }
  }

  public static void main(String[] args) throws Exception {
    String source = Files.readString(
        Path.of("src/main/java/PassedDark.java"), StandardCharsets.ISO_8859_1);
    String bare = withoutTextsAndComments(source);
    face();
    members();
    words(bare);
    library(bare);
    sizes(bare);
    room(bare);
    if (wrong != 0) {
      System.exit(1);
    }
  }

  private static String withoutTextsAndComments(String source) {
    return source.replaceAll("(?s)/\\*.*?\\*/", "").replaceAll("\"(\\\\.|[^\"\\\\])*\"", "\"\"")
        .replaceAll("'(\\\\.|[^'\\\\])'", "'x'").replaceAll("//.*", "");
  }

  private static List<Class<?>> classes() {
    List<Class<?>> all = new ArrayList<>(List.of(PassedDark.class.getDeclaredClasses()));
    all.add(PassedDark.class);
    return all;
  }

  private static final String[] FACE = {
    "int feed(int,int,int,int,int)", "boolean end(int)", "int course()", "int fault(int)",
    "int has(int)", "int letter(int,int,int)", "int bearer(int,int)", "int house(int,int)",
    "int light(int,int)", "int kept(int,int)", "int later(int,int)", "int through()", "int few()",
    "int post(int,int)", "int change(int)", "int least()", "int odds()", "int see()",
    "int strengths(int)", "int tells(int)", "boolean place(int,int)", "boolean aside(int,int)",
    "boolean kindle(int)", "int hours(int)", "int chance(int)", "boolean undo()",
    "boolean seed(int)", "long ask()", "int image()", "int octet(int)", "boolean on()",
    "int status(int)"
  };

  private static void face() {
    Class<?> it = PassedDark.class;
    rule(1, Modifier.isPublic(it.getModifiers()) && Modifier.isFinal(it.getModifiers()), "the class");
    Set<String> due = new TreeSet<>(Arrays.asList(FACE));
    Set<String> there = new TreeSet<>();
    for (Method m : it.getDeclaredMethods()) {
      if (!Modifier.isPrivate(m.getModifiers())) {
        StringBuilder types = new StringBuilder();
        for (Class<?> p : m.getParameterTypes()) {
          types.append(types.length() > 0 ? "," : "").append(p);
        }
        there.add(m.getReturnType() + " " + m.getName() + "(" + types + ")");
        rule(1, Modifier.isPublic(m.getModifiers()) && !Modifier.isStatic(m.getModifiers()), m + "");
      }
    }
    rule(1, due.equals(there), "methods that are not private: " + there);
    for (Constructor<?> c : it.getDeclaredConstructors()) {
      rule(1, Modifier.isPublic(c.getModifiers()) && c.getParameterCount() == 0, c + "");
    }
    for (Field f : it.getDeclaredFields()) {
      boolean constant = f.getName().equals("NONE") || f.getName().equals("NOTHING");
      rule(1, constant || Modifier.isPrivate(f.getModifiers()), f + " is not private");
    }
  }

  private static void members() {
    Set<String> publicNames = new TreeSet<>();
    for (String line : FACE) {
      publicNames.add(line.substring(line.indexOf(' ') + 1, line.indexOf('(')));
    }
    rule(11, classes().size() <= 12, classes().size() + " classes");
    for (Class<?> c : classes()) {
      boolean inside = c != PassedDark.class;
      int m = c.getModifiers();
      rule(2, !inside || Modifier.isStatic(m) && !Modifier.isPublic(m) && !Modifier.isProtected(m), c + "");
      int fields = 0;
      for (Field f : c.getDeclaredFields()) {
        boolean isStatic = Modifier.isStatic(f.getModifiers());
        fields += isStatic ? 0 : 1;
        rule(5, !isStatic || Modifier.isFinal(f.getModifiers()), f + " is not final");
        Class<?> type = f.getType().isArray() ? f.getType().getComponentType() : f.getType();
        rule(3, type.isPrimitive() || type == String.class || classes().contains(type), f + "");
      }
      rule(11, fields <= 20, c + " has " + fields + " fields");
      for (Method method : c.getDeclaredMethods()) {
        rule(11, method.getParameterCount() <= 7, method + "");
        rule(1, !publicNames.contains(method.getName())
            || !inside && Modifier.isPublic(method.getModifiers()), method + " bears a public name");
      }
    }
  }

  private static void words(String bare) {
    Matcher word = Pattern.compile("\\b(throw|throws|try|catch|finally|synchronized|assert|import|package"
        + "|float|double|native|volatile|transient|yield|record|strictfp|goto|var|sealed|permits)\\b")
        .matcher(bare);
    while (word.find()) {
      rule(6, false, "the word " + word.group());
    }
    rule(2, !bare.contains("->") && !bare.contains("::"), "a lambda or a method reference");
    rule(10, !Pattern.compile("\"\\s*\\+|\\+\\s*\"").matcher(bare).find(), "texts joined by +");
    rule(2, !bare.contains("@"), "an annotation");
    rule(5, !Pattern.compile("\\bstatic\\s*\\{").matcher(bare).find(), "a static block");
    for (int i = 0; i < bare.length(); i++) {
      rule(4, bare.charAt(i) < 127, "a sign above 126");
    }
  }

  private static void library(String bare) {
    Set<String> allowed = Set.of("Math.min", "Math.max", "Math.abs", "Math.floorDiv", "Math.floorMod",
        "Integer.bitCount", "System.arraycopy");
    Matcher call = Pattern.compile("\\b(Math|Integer|Long|System|Arrays|String|Character|Objects|Thread"
        + "|Runtime|Class|Object|Boolean|Byte)\\.(\\w+)").matcher(bare);
    while (call.find()) {
      rule(4, allowed.contains(call.group()), call.group());
    }
    Matcher loop = Pattern.compile("while\\s*\\(\\s*true|for\\s*\\(\\s*;\\s*;").matcher(bare);
    rule(9, !loop.find(), "a loop without an end");
  }

  private static void sizes(String bare) {
    String[] lines = bare.split("\n", -1);
    int since = -1;
    String indent = "";
    String constructor = "";
    for (int i = 0; i < lines.length; i++) {
      Matcher head = Pattern.compile("^( {2}| {4})(?! )[^=;]*\\(([^=;]*\\))? *\\{?$").matcher(lines[i]);
      if (since < 0 && head.find() && !lines[i].contains(" class ")) {
        since = i;
        indent = head.group(1);
        constructor = lines[i].contains("  PassedDark(") || lines[i].matches(" {4}[A-Z]\\w*\\(.*")
            ? "a constructor" : "";
      } else if (since >= 0 && lines[i].equals(indent + "}")) {
        rule(11, i - since + 1 <= 60, (i - since + 1) + " lines from " + lines[since].trim() + " on");
        since = -1;
      } else if (since >= 0 && constructor.isEmpty()) {
        rule(12, !lines[i].matches(".*\\bnew\\b.*"), "a call makes an object: " + lines[i].trim());
      }
    }
    rule(11, since < 0, "a method's end was not found");
  }

  /** A room of some 7.3 million fields and elements is to hold many objects. */
  private static void room(String bare) throws Exception {
    Map<Object, Boolean> seen = new IdentityHashMap<>();
    long elements = count(new PassedDark(), seen);
    rule(12, seen.size() <= 100, seen.size() + " objects and arrays by one constructor");
    rule(12, elements <= 9000, elements + " fields and elements by one constructor");
    rule(8, !bare.contains("this.course()") && !bare.contains("null"), "a reference that may be null");
  }

  private static long count(Object it, Map<Object, Boolean> seen) throws Exception {
    if (it == null || it instanceof String || seen.put(it, true) != null) {
      return 0;
    }
    if (it.getClass().isArray()) {
      return Array.getLength(it);
    }
    long elements = 0;
    for (Field f : it.getClass().getDeclaredFields()) {
      if (!Modifier.isStatic(f.getModifiers())) {
        elements++;
        if (!f.getType().isPrimitive()) {
          f.setAccessible(true);
          elements += count(f.get(it), seen);
        }
      }
    }
    return elements;
  }
}
