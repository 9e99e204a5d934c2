import java.util.ArrayDeque;
import java.util.ArrayList;
import java.util.Deque;
import java.util.HashMap;
import java.util.HashSet;
import java.util.List;
import java.util.Map;
import java.util.Set;

/**
 * Random runs of calls, whose answers are compared with those of a second, plain program written
 * from the document alone (class Model). The random numbers are the same in every run of the test.
 */
public final class AgainstModelTest {
  private static int wrong = 0;
  private static long calls = 0;
  private static final Map<String, Integer> seen = new HashMap<>();

  public static void main(String[] args) {
    int runs = args.length > 0 ? Integer.parseInt(args[0]) : 12000;
    int first = args.length > 1 ? Integer.parseInt(args[1]) : 0;
    for (int run = first; run < first + runs && wrong < 20; run++) {
      new Run(run).play();
    }
    if (args.length > 0) {
      System.out.println(seen);
    }
    System.out.println(wrong == 0 ? calls + " calls as the model has them" : wrong + " runs differ");
    if (wrong != 0) {
      System.exit(1);
    }
  }

  static void count(String what) {
    seen.merge(what, 1, Integer::sum);
  }

  // ---------------------------------------------------------------- one run of calls

  private static final class Run {
    // What an object answers behind this many calls is free.
    static final int CALLS = 512;
    static final int DEAREST_STEP = 100;
    final int number;
    final Chance chance;
    final PassedDark dark = new PassedDark();
    final Model model = new Model();
    final List<String> told = new ArrayList<>();
    final boolean actsAlone;
    boolean same = true;
    int made = 0;

    Run(int number) {
      this.number = number;
      chance = new Chance(number);
      actsAlone = chance.one(4);
    }

    void play() {
      if (!chance.one(20)) {
        feedText(new Writer(chance).course());
        check("course()", dark.course(), model.course());
        lookAtFault();
        // Later the dark is often out or through, and little is left to be found.
        ahead();
        posts();
        tells();
      }
      while (same && made <= CALLS - DEAREST_STEP) {
        step();
      }
      if (!same) {
        wrong++;
        System.out.println("run " + number + ":");
        for (int i = Math.max(0, told.size() - 40); i < told.size(); i++) {
          System.out.println("  " + told.get(i));
        }
      }
    }

    void check(String call, long got, long due) {
      calls++;
      made++;
      told.add(call + " -> " + got + (got == due ? "" : ", due is " + due));
      same = same && got == due;
    }

    void check(String call, boolean got, boolean due) {
      check(call, got ? 1 : 0, due ? 1 : 0);
    }

    void lookAtFault() {
      check("fault(0)", dark.fault(0), model.fault(0));
      check("fault(1)", dark.fault(1), model.fault(1));
      count("fault " + model.fault(0));
    }

    void feedText(String text) {
      byte[] bytes = new byte[text.length()];
      for (int i = 0; i < bytes.length; i++) {
        bytes[i] = (byte) text.charAt(i);
      }
      feedBytes(bytes);
      told.add("text: " + text.replace("\n", "\\n"));
    }

    void feedBytes(byte[] bytes) {
      clear();
      for (int at = 0; at < bytes.length; at += 20) {
        int[] five = new int[5];
        for (int i = 0; i < 20; i++) {
          int b = at + i < bytes.length ? bytes[at + i] & 255 : 32;
          five[i / 4] = five[i / 4] << 8 | b;
        }
        feed(five);
      }
      end(bytes.length);
    }

    void clear() {
      if (model.tape.size() > 0) {
        end(0);
      }
    }

    void feed(int[] five) {
      check("feed", dark.feed(five[0], five[1], five[2], five[3], five[4]), model.feed(five));
    }

    void end(int n) {
      check("end(" + n + ")", dark.end(n), model.end(n));
    }

    void step() {
      switch (actsAlone ? 1 + chance.below(16) : chance.below(36)) {
        case 0: look(); break;
        case 1: case 2: case 3: place(); break;
        case 4: case 5: aside(); break;
        case 6: case 7: kindle(); break;
        case 8: case 9: case 10: hours(); break;
        case 11: case 12: case 13: chanceHours(); break;
        case 14: case 15: check("undo()", dark.undo(), model.undo()); break;
        case 16: seed(); break;
        case 17: case 18: case 19: case 20: question(); break;
        case 21: case 22: image(); break;
        case 23: case 24: see(); break;
        case 25: strengths(); break;
        case 26: tells(); break;
        case 27: ahead(); break;
        case 28: posts(); break;
        case 29: later(); break;
        case 30: lights(); break;
        case 31: anyArguments(); break;
        case 32: tapeCalls(); break;
        case 33: courseAgain(); break;
        case 34: kept(); break;
        default: status(); break;
      }
      for (int i = actsAlone ? 8 : 5; i > 0 && same; i--) {
        int what = 3 + chance.below(9);
        check("has(" + what + ")", dark.has(what), model.has(what));
      }
      if (actsAlone && chance.one(12)) {
        kept();
      }
    }

    void look() {
      for (int what = -1; what <= 12; what++) {
        check("has(" + what + ")", dark.has(what), model.has(what));
      }
      for (int times = 0; times < 3; times++) {
        int i = chance.below(10) - 1;
        for (int what = -1; what <= 4; what++) {
          check("bearer(" + i + "," + what + ")", dark.bearer(i, what), model.bearer(i, what));
          check("house(" + i + "," + what + ")", dark.house(i, what), model.house(i, what));
        }
        int kind = chance.one(9) ? chance.below(4) - 1 : chance.below(2);
        for (int k = -1; k <= 6; k++) {
          check("letter(" + kind + "," + i + "," + k + ")", dark.letter(kind, i, k),
              model.letter(kind, i, k));
        }
      }
    }

    int bearer() {
      return chance.one(10) ? chance.below(12) - 2 : chance.below(Math.max(1, model.has(1)));
    }

    void place() {
      int b = bearer();
      int mile = chance.below(model.has(0) + 3) - 1;
      check("place(" + b + "," + mile + ")", dark.place(b, mile), model.place(b, mile));
    }

    void aside() {
      int b = bearer();
      int on = chance.one(12) ? chance.below(5) - 2 : chance.below(2);
      check("aside(" + b + "," + on + ")", dark.aside(b, on), model.aside(b, on));
    }

    void kindle() {
      int s = chance.one(10) ? chance.below(104) - 2 : 20 + chance.below(80);
      check("kindle(" + s + ")", dark.kindle(s), model.kindle(s));
    }

    void hours() {
      int n = chance.one(6) ? chance.below(104) - 1 : chance.below(4);
      check("hours(" + n + ")", dark.hours(n), model.hours(n));
    }

    void chanceHours() {
      int n = chance.one(6) ? chance.below(104) - 1 : chance.below(4);
      check("chance(" + n + ")", dark.chance(n), model.chance(n));
    }

    void seed() {
      int s = chance.one(5) ? (int) (chance.next() << 3) : chance.below(100) - 3;
      check("seed(" + s + ")", dark.seed(s), model.seed(s));
    }

    void question() {
      feedText(new Writer(chance).question());
      check("ask()", dark.ask(), model.ask());
      lookAtFault();
    }

    void image() {
      int size = dark.image();
      check("image()", size, model.image());
      byte[] bytes = new byte[Math.max(0, size)];
      for (int k = -1; k <= size; k++) {
        int octet = dark.octet(k);
        check("octet(" + k + ")", octet, model.octet(k));
        if (k >= 0 && k < size) {
          bytes[k] = (byte) octet;
        }
      }
      if (chance.one(3)) {
        return;
      }
      int changes = chance.below(3);
      for (int i = 0; i < changes; i++) {
        int at = chance.below(bytes.length - 1);
        bytes[at] = (byte) (chance.one(2) ? chance.below(256) : chance.below(12));
      }
      if (chance.one(3) && bytes.length > 5) {
        // An hour close to the last one.
        bytes[0] = 3;
        bytes[1] = (byte) (160 + chance.below(75));
      }
      if (!chance.one(10)) {
        int sum = 199;
        for (int i = 0; i < bytes.length - 1; i++) {
          sum = (3 * sum + (bytes[i] & 255)) % 251;
        }
        bytes[bytes.length - 1] = (byte) sum;
      }
      feedBytes(bytes);
      if (chance.one(12)) {
        end(chance.below(bytes.length + 2));
      }
      boolean due = model.on();
      count("on " + due);
      check("on()", dark.on(), due);
    }

    void see() {
      int rows = chance.one(10) ? chance.below(19) : 1 + chance.below(3);
      byte[] bytes = new byte[3 * rows];
      for (int i = 0; i < rows; i++) {
        bytes[3 * i] = (byte) (chance.one(20) ? chance.below(256) : chance.below(31));
        bytes[3 * i + 1] = (byte) (chance.one(20) ? chance.below(9) : chance.below(Math.max(1, model.has(2))));
        bytes[3 * i + 2] = (byte) (chance.one(25) ? chance.below(4) : chance.below(2));
      }
      feedBytes(bytes);
      if (chance.one(12)) {
        end(chance.below(bytes.length + 1));
      }
      check("see()", dark.see(), model.see());
      strengths();
    }

    void strengths() {
      check("strengths(-1)", dark.strengths(-1), model.strengths(-1));
      for (int i = 0; i < 3; i++) {
        int k = chance.below(104) - 3;
        check("strengths(" + k + ")", dark.strengths(k), model.strengths(k));
      }
    }

    void tells() {
      for (int what = -1; what <= 3; what++) {
        check("tells(" + what + ")", dark.tells(what), model.tells(what));
      }
    }

    void ahead() {
      int few = model.few();
      count(few == -1 ? "few none" : few == 0 ? "few 0" : "few some");
      int least = model.least();
      count(least == -1 ? "least none" : least == 1 ? "least 1" : "least some");
      check("through()", dark.through(), model.through());
      check("few()", dark.few(), few);
      check("least()", dark.least(), least);
      check("odds()", dark.odds(), model.odds());
      count(model.odds() == 1000 || model.odds() <= 0 ? "odds all" : "odds some");
    }

    void posts() {
      for (int i = -1; i <= model.has(1); i++) {
        for (int what = -1; what <= 2; what++) {
          check("post(" + i + "," + what + ")", dark.post(i, what), model.post(i, what));
        }
      }
      count(model.change(0) >= 0 ? "change some" : "change none");
      for (int what = -1; what <= 3; what++) {
        check("change(" + what + ")", dark.change(what), model.change(what));
      }
    }

    void later() {
      for (int i = 0; i < 3; i++) {
        int n = chance.one(3) ? chance.below(65) - 2 : chance.below(12);
        for (int what = -1; what <= 4; what++) {
          check("later(" + n + "," + what + ")", dark.later(n, what), model.later(n, what));
        }
      }
    }

    void lights() {
      for (int i = 0; i < 5; i++) {
        int mile = chance.below(model.has(0) + 3) - 1;
        int n = chance.below(64) - 2;
        check("light(" + mile + "," + n + ")", dark.light(mile, n), model.light(mile, n));
      }
    }

    int any() {
      switch (chance.below(5)) {
        case 0: return Integer.MIN_VALUE;
        case 1: return Integer.MAX_VALUE;
        case 2: return (int) (chance.next() << 2);
        case 3: return -chance.below(70);
        default: return chance.below(300);
      }
    }

    void anyArguments() {
      int a = any();
      int b = chance.one(2) ? any() : chance.below(4);
      int c = any();
      String both = "(" + a + "," + b + ")";
      check("fault" + a, dark.fault(a), model.fault(a));
      check("has" + a, dark.has(a), model.has(a));
      check("letter" + both, dark.letter(b, a, c), model.letter(b, a, c));
      check("bearer" + both, dark.bearer(a, b), model.bearer(a, b));
      check("house" + both, dark.house(a, b), model.house(a, b));
      check("light" + both, dark.light(a, b), model.light(a, b));
      check("light" + both, dark.light(b, a), model.light(b, a));
      check("kept" + both, dark.kept(a, b), model.kept(a, b));
      check("later" + both, dark.later(a, b), model.later(a, b));
      check("post" + both, dark.post(a, b), model.post(a, b));
      check("strengths" + a, dark.strengths(a), model.strengths(a));
      check("octet" + a, dark.octet(a), model.octet(a));
      check("status" + a, dark.status(a), model.status(a));
      check("place" + both, dark.place(a, c), model.place(a, c));
      check("aside" + both, dark.aside(a, b), model.aside(a, b));
      check("aside" + both, dark.aside(b, a), model.aside(b, a));
    }

    void tapeCalls() {
      int times = chance.one(4) ? 85 : chance.below(4);
      for (int i = 0; i < times; i++) {
        feed(new int[] {any(), any(), any(), any(), any()});
      }
      int n = chance.one(3) ? any() : chance.below(90);
      end(n);
    }

    void courseAgain() {
      if (chance.one(3)) {
        feedText(new Writer(chance).course());
        check("course()", dark.course(), model.course());
        lookAtFault();
      } else if (chance.one(2)) {
        // Whatever is on the tape.
        check("course()", dark.course(), model.course());
        lookAtFault();
      } else {
        check("ask()", dark.ask(), model.ask());
        lookAtFault();
      }
    }

    void kept() {
      int told = model.has(9);
      for (int k : new int[] {-1, 0, told - 1, told, chance.below(told), chance.below(told)}) {
        for (int what = -1; what <= 4; what++) {
          check("kept(" + k + "," + what + ")", dark.kept(k, what), model.kept(k, what));
        }
      }
    }

    void status() {
      for (int what = -1; what <= 6; what++) {
        check("status(" + what + ")", dark.status(what), model.status(what));
      }
    }
  }

  // ---------------------------------------------------------------- random texts

  private static final class Chance {
    private long x;

    Chance(int seed) {
      x = seed * 2654435761L + 88172645463325252L;
      for (int i = 0; i < 5; i++) {
        next();
      }
    }

    long next() {
      x ^= x << 13;
      x ^= x >>> 7;
      x ^= x << 17;
      return x;
    }

    int below(int n) {
      return n <= 0 ? 0 : (int) ((next() >>> 1) % n);
    }

    boolean one(int of) {
      return below(of) == 0;
    }

    String of(String... words) {
      return words[below(words.length)];
    }
  }

  private static final class Writer {
    final Chance chance;
    final StringBuilder text = new StringBuilder();
    int depth = 0;

    Writer(Chance chance) {
      this.chance = chance;
    }

    void put(String token) {
      if (text.length() > 0) {
        char last = text.charAt(text.length() - 1);
        char next = token.charAt(0);
        boolean need = Character.isLetterOrDigit(last) && Character.isLetterOrDigit(next);
        if (need ? !chance.one(400) : chance.one(4)) {
          text.append(chance.one(6) ? "\n" : chance.one(8) ? "  " : " ");
        }
      }
      text.append(token);
    }

    void put(int number) {
      put((chance.one(40) ? "0" : "") + number);
    }

    String course() {
      int miles = chance.one(30) ? chance.below(110) : 5 + chance.below(chance.one(3) ? 95 : 20);
      put("course");
      put(miles);
      put(";");
      List<Runnable> parts = new ArrayList<>();
      Set<String> names = new HashSet<>();
      int bearers = chance.one(40) ? 9 : chance.below(chance.one(3) ? 9 : 5);
      for (int i = 0; i < bearers; i++) {
        parts.add(() -> bearer(names, miles));
      }
      int houses = chance.one(40) ? 9 : chance.below(chance.one(3) ? 9 : 5);
      for (int i = 0; i < houses; i++) {
        parts.add(() -> house(names, miles));
      }
      for (int i = chance.below(chance.one(30) ? 70 : 3); i > 0; i--) {
        parts.add(() -> { put("dark"); put(chance.one(60) ? chance.below(120) : 10 + chance.below(90)); });
      }
      if (!chance.one(4)) {
        parts.add(() -> { put("light"); sum("light", 3); });
      }
      if (!chance.one(3)) {
        parts.add(() -> { put("wanes"); waning(); });
      }
      if (chance.one(2)) {
        parts.add(() -> { put("takes"); taking(); });
      }
      if (chance.one(2)) {
        parts.add(() -> { put("trip"); put(chance.one(30) ? chance.below(130) : chance.below(101)); });
      }
      if (chance.one(30)) {
        parts.add(() -> { put(chance.of("light", "wanes")); put(1); });
        parts.add(() -> { put("takes"); put("all"); });
      }
      while (!parts.isEmpty()) {
        parts.remove(chance.below(parts.size())).run();
        put(";");
      }
      return spoiled();
    }

    String name(Set<String> names) {
      if (chance.one(120) && !names.isEmpty()) {
        return names.iterator().next();
      }
      if (chance.one(200)) {
        return chance.of("far", "passed", "lit", "course", "number", "strength", "house", "dark");
      }
      StringBuilder name = new StringBuilder();
      int size = chance.one(150) ? 7 + chance.below(3) : 1 + chance.below(6);
      for (int i = 0; i < size; i++) {
        name.append((char) ('a' + chance.below(26)));
      }
      if (chance.one(60)) {
        return chance.of("first", "last", "often", "total", "most", "least", "z");
      }
      return name.toString();
    }

    void bearer(Set<String> names, int miles) {
      put("bearer");
      String name = name(names);
      names.add(name);
      put(name);
      put("at");
      put(chance.one(150) ? miles + 1 : chance.below(chance.one(2) ? miles + 1 : miles / 2 + 1));
      put("pace");
      put(chance.one(150) ? chance.below(12) : 1 + chance.below(9));
    }

    void house(Set<String> names, int miles) {
      put("house");
      String name = name(names);
      names.add(name);
      put(name);
      put("at");
      put(chance.one(150) ? miles + 1 : chance.below(miles + 1));
      put("care");
      put(chance.one(150) ? 95 + chance.below(10) : chance.below(100));
    }

    void waning() {
      if (chance.one(2)) {
        // Such that it matters who runs, and whether it is handed over.
        write(chance.of("strength - run * 2 + handed * 12", "strength - pace * 3", "strength - run * light / 2",
            "strength - pace - light + handed * 5", "min ( strength , 30 ) - run + 10 * handed",
            "strength - 9 * ( hour - hour / 3 * 3 )", "strength - run * run / 2 + handed * 20",
            "strength - 40 / pace", "strength * 9 / 10 - 1 + handed * 3", "99 - strength"));
      } else if (chance.one(4)) {
        sum("wanes", 3);
      } else {
        put("strength");
        put(chance.of("-", "-", "-", "+"));
        if (chance.one(3)) {
          put(chance.of("light", "run", "pace", "handed"));
        } else if (chance.one(2)) {
          put("("); depth++;
          sum("wanes", 2);
          put(")"); depth--;
        } else {
          put(chance.of("light", "run", "pace")); put("/"); put(1 + chance.below(4));
        }
      }
    }

    void write(String tokens) {
      for (String token : tokens.split(" ")) {
        put(token);
      }
    }

    void taking() {
      if (chance.one(3)) {
        write(chance.of("strength < 50", "pace > 4", "light < 5 or pace > 6", "far > 2", "not far = 3",
            "hour / 2 * 2 = hour", "strength > 10 and pace < 6"));
      } else if (chance.one(2)) {
        test("takes", 2);
      } else {
        put(chance.of("strength", "light", "pace", "far"));
        put(chance.of("<", ">"));
        put(chance.below(chance.one(2) ? 10 : 90));
      }
    }

    /** Opens many at once, close to the limit. */
    void deep(String where, int more, boolean isTest) {
      int opened = 0;
      StringBuilder closing = new StringBuilder();
      boolean test = isTest;
      while (depth + opened < 6 && !chance.one(7) || chance.one(3)) {
        if (test && chance.one(3)) {
          put("not");
        } else if (test && chance.one(2)) {
          put("[");
          closing.insert(0, "] ");
        } else if (where.equals("ask") && !test && chance.one(3)) {
          put(chance.of("lit", "from"));
        } else if (!test) {
          put("(");
          closing.insert(0, ") ");
        } else {
          break;
        }
        opened++;
      }
      depth += opened;
      if (test) {
        fact(where, more - 3);
      } else {
        put(word(where));
      }
      depth -= opened;
      if (closing.length() > 0) {
        write(closing.toString().trim());
      }
    }

    void test(String where, int more) {
      if (chance.one(12) && more > 0) {
        deep(where, more, true);
        return;
      }
      both(where, more);
      while (chance.one(4)) {
        put("or");
        both(where, more);
      }
    }

    void both(String where, int more) {
      fact(where, more);
      while (chance.one(4)) {
        put("and");
        fact(where, more);
      }
    }

    void fact(String where, int more) {
      boolean opens = depth < 6 || chance.one(30);
      int sort = chance.below(7);
      if (sort == 0 && more > -4 && opens) {
        put("not"); depth++;
        fact(where, more - 1);
        depth--;
      } else if (sort == 1 && more > -4 && opens) {
        put("["); depth++;
        test(where, more - 1);
        put("]"); depth--;
      } else if (sort == 2 && chance.one(2)) {
        put("all");
      } else {
        sum(where, more);
        put(chance.of("<", ">", "="));
        sum(where, more);
      }
    }

    void sum(String where, int more) {
      product(where, more);
      while (chance.one(3)) {
        put(chance.of("+", "-"));
        product(where, more);
      }
    }

    void product(String where, int more) {
      part(where, more);
      while (chance.one(4)) {
        put(chance.of("*", "/"));
        part(where, more);
      }
    }

    void part(String where, int more) {
      boolean opens = (depth < 6 || chance.one(30)) && more > -4;
      int sort = chance.below(8);
      if (chance.one(30) && more > 0) {
        deep(where, more, false);
      } else if (sort == 0 && opens && more > 0 || chance.one(20) && opens) {
        put("("); depth++;
        sum(where, more - 1);
        put(")"); depth--;
      } else if (sort == 1 && opens && more > 0) {
        put(chance.of("min", "max"));
        put("("); depth++;
        sum(where, more - 1);
        put(",");
        sum(where, more - 1);
        put(")"); depth--;
      } else if (sort == 2 && opens && where.equals("ask")) {
        put(chance.of("lit", "from")); depth++;
        part(where, more - 1);
        depth--;
      } else if (sort < 5) {
        put(chance.one(30) ? chance.below(13000) : chance.below(chance.one(3) ? 100 : 10));
      } else {
        put(word(where));
      }
    }

    String word(String where) {
      if (chance.one(300)) {
        return chance.of("far", "passed", "lit", "run", "mile", "abc", "all", "min", "number");
      }
      switch (where) {
        case "light": return chance.of("hour", "mile");
        case "wanes": return chance.of("hour", "strength", "light", "pace", "handed", "run");
        case "takes": return chance.of("hour", "strength", "light", "pace", "far");
        default: return chance.of("number", "mile", "care", "passed", "far", "strength", "hour");
      }
    }

    String question() {
      String kind = chance.one(40) ? chance.of("all", "care", "x", "firs") 
          : chance.of("first", "last", "often", "total", "most", "least");
      put(kind);
      if (chance.one(60)) {
        kind = "total";
      }
      if (kind.equals("first") || kind.equals("last") || kind.equals("often")) {
        test("ask", 2);
      } else {
        sum("ask", 2);
      }
      if (chance.one(40)) {
        put(chance.of(";", "all", "3", "care", ")"));
      }
      return spoiled();
    }

    /** Mostly the text as it is, now and then with a sign or more changed. */
    String spoiled() {
      if (!chance.one(4)) {
        return cut();
      }
      for (int i = 1 + chance.below(2); i > 0 && text.length() > 1; i--) {
        int at = chance.below(text.length());
        switch (chance.below(4)) {
          case 0: text.deleteCharAt(at); break;
          case 1: text.insert(at, sign()); break;
          case 2: text.setCharAt(at, sign()); break;
          default: text.setLength(at); break;
        }
      }
      return cut();
    }

    String cut() {
      return text.length() > 1580 ? text.substring(0, 1580) : text.toString();
    }

    char sign() {
      return chance.one(15) ? (char) chance.below(256) : " 0123456789;()[]<>=+-*/,abeghilnorstw".charAt(chance.below(37));
    }
  }

  // ---------------------------------------------------------------- the model

  private static final class Fault extends RuntimeException {
    private static final long serialVersionUID = 1L;
    final int code;
    final int place;

    Fault(int code, int place) {
      super(null, null, false, false);
      this.code = code;
      this.place = place;
    }
  }

  private interface Formula {
    int of(Map<String, Integer> env);
  }

  private static final class Bearer {
    String name;
    int mile;
    int pace;
  }

  private static final class House {
    String name;
    int mile;
    int care;
  }

  private static final class Plan {
    int statements;
    int miles;
    int dark = 50;
    int trip = 0;
    final List<Bearer> bearers = new ArrayList<>();
    final List<House> houses = new ArrayList<>();
    Formula light;
    Formula wanes;
    Formula takes;

    int lightAt(int mile, int hour) {
      int told = light.of(Map.of("hour", hour, "mile", mile));
      return Math.min(9, Math.max(0, told));
    }
  }

  private static final class Token {
    char sort; // w word, n number, s sign, e end
    String text;
    int at;
    boolean glued;
  }

  private static final class Parser {
    static final Set<String> OWN = Set.of("course", "bearer", "at", "pace", "house", "care", "dark",
        "light", "wanes", "takes", "trip", "strength", "hour", "mile", "handed", "run", "far",
        "number", "passed", "lit", "from", "or", "and", "not", "all", "min", "max");
    final List<Token> tokens = new ArrayList<>();
    int now = 0;
    int open = 0;
    Set<String> names;
    Plan plan;
    Store store;

    Parser(String text) {
      int i = 0;
      while (i < text.length()) {
        char c = text.charAt(i);
        if (c == ' ' || c == '\n') {
          i++;
          continue;
        }
        Token t = new Token();
        t.at = i;
        int j = i + 1;
        t.sort = 's';
        if (c >= 'a' && c <= 'z') {
          t.sort = 'w';
          while (j < text.length() && text.charAt(j) >= 'a' && text.charAt(j) <= 'z') {
            j++;
          }
        } else if (c >= '0' && c <= '9') {
          t.sort = 'n';
          while (j < text.length() && text.charAt(j) >= '0' && text.charAt(j) <= '9') {
            j++;
          }
        }
        t.text = text.substring(i, j);
        if (t.sort != 's' && !tokens.isEmpty()) {
          Token last = tokens.get(tokens.size() - 1);
          t.glued = last.sort != 's' && last.at + last.text.length() == i;
        }
        tokens.add(t);
        i = j;
      }
      Token end = new Token();
      end.sort = 'e';
      end.text = "";
      end.at = text.length();
      tokens.add(end);
    }

    Token peek() {
      return tokens.get(now);
    }

    Fault fault(int code) {
      return new Fault(code, peek().at);
    }

    boolean is(String text) {
      Token t = peek();
      return !t.glued && t.sort != 'e' && t.text.equals(text);
    }

    void need(String text) {
      if (!is(text)) {
        throw fault(1);
      }
      now++;
    }

    int number(int least, int most) {
      Token t = peek();
      if (t.sort != 'n' || t.glued) {
        throw fault(1);
      }
      if (t.text.length() > 4) {
        throw new Fault(1, t.at + 4);
      }
      int n = Integer.parseInt(t.text);
      if (n < least || n > most) {
        throw fault(2);
      }
      now++;
      return n;
    }

    String newName() {
      Token t = peek();
      if (t.sort != 'w' || t.glued || OWN.contains(t.text)) {
        throw fault(1);
      }
      if (t.text.length() > 6) {
        throw new Fault(1, t.at + 6);
      }
      if (names.contains(t.text)) {
        throw fault(3);
      }
      names.add(t.text);
      now++;
      return t.text;
    }

    Plan course() {
      plan = new Plan();
      names = new HashSet<>();
      need("course");
      plan.miles = number(5, 99);
      need(";");
      plan.statements = 1;
      while (peek().sort != 'e') {
        if (plan.statements == 60) {
          throw fault(5);
        }
        statement();
        need(";");
        plan.statements++;
      }
      if (plan.light == null) {
        plan.light = env -> 0;
      }
      if (plan.wanes == null) {
        plan.wanes = env -> env.get("strength") - env.get("light");
      }
      if (plan.takes == null) {
        plan.takes = env -> 1;
      }
      return plan;
    }

    void statement() {
      if (is("bearer")) {
        if (plan.bearers.size() == 8) {
          throw fault(5);
        }
        now++;
        Bearer b = new Bearer();
        b.name = newName();
        need("at");
        b.mile = number(0, plan.miles);
        need("pace");
        b.pace = number(1, 9);
        plan.bearers.add(b);
      } else if (is("house")) {
        if (plan.houses.size() == 8) {
          throw fault(5);
        }
        now++;
        House h = new House();
        h.name = newName();
        need("at");
        h.mile = number(0, plan.miles);
        need("care");
        h.care = number(0, 99);
        plan.houses.add(h);
      } else if (is("dark")) {
        now++;
        plan.dark = number(1, 99);
      } else if (is("trip")) {
        now++;
        plan.trip = number(0, 100);
      } else if (is("light")) {
        once(plan.light);
        plan.light = sum(Set.of("hour", "mile"));
      } else if (is("wanes")) {
        once(plan.wanes);
        plan.wanes = sum(Set.of("hour", "strength", "light", "pace", "handed", "run"));
      } else if (is("takes")) {
        once(plan.takes);
        plan.takes = test(Set.of("hour", "strength", "light", "pace", "far"));
      } else {
        throw fault(1);
      }
    }

    void once(Formula formula) {
      if (formula != null) {
        throw fault(5);
      }
      now++;
    }

    Formula test(Set<String> words) {
      Formula told = both(words);
      while (is("or")) {
        now++;
        Formula left = told;
        Formula right = both(words);
        told = env -> Math.max(left.of(env), right.of(env));
      }
      return told;
    }

    Formula both(Set<String> words) {
      Formula told = fact(words);
      while (is("and")) {
        now++;
        Formula left = told;
        Formula right = fact(words);
        told = env -> Math.min(left.of(env), right.of(env));
      }
      return told;
    }

    void opening() {
      if (open == 6) {
        throw fault(4);
      }
      open++;
      now++;
    }

    Formula fact(Set<String> words) {
      if (is("not")) {
        opening();
        Formula inner = fact(words);
        open--;
        return env -> inner.of(env) == 0 ? 1 : 0;
      }
      if (is("[")) {
        opening();
        Formula inner = test(words);
        need("]");
        open--;
        return inner;
      }
      if (is("all")) {
        now++;
        return env -> 1;
      }
      Formula left = sum(words);
      String sign = peek().text;
      if (!is("<") && !is(">") && !is("=")) {
        throw fault(1);
      }
      now++;
      Formula right = sum(words);
      return env -> {
        int order = Integer.compare(left.of(env), right.of(env));
        return order == "<=>".indexOf(sign) - 1 ? 1 : 0;
      };
    }

    static int cut(long value) {
      return (int) Math.max(-1000000L, Math.min(1000000L, value));
    }

    Formula sum(Set<String> words) {
      Formula told = product(words);
      while (is("+") || is("-")) {
        int by = is("+") ? 1 : -1;
        now++;
        Formula left = told;
        Formula right = product(words);
        told = env -> cut((long) left.of(env) + by * (long) right.of(env));
      }
      return told;
    }

    Formula product(Set<String> words) {
      Formula told = part(words);
      while (is("*") || is("/")) {
        boolean times = is("*");
        now++;
        Formula left = told;
        Formula right = part(words);
        told = env -> {
          int a = left.of(env);
          int b = right.of(env);
          if (times) {
            return cut((long) a * b);
          }
          return b == 0 ? 0 : (int) Math.floor((double) a / b);
        };
      }
      return told;
    }

    Formula part(Set<String> words) {
      Token t = peek();
      if (t.sort == 'n' && !t.glued) {
        int n = number(0, 9999);
        return env -> n;
      }
      if (is("(")) {
        opening();
        Formula inner = sum(words);
        need(")");
        open--;
        return inner;
      }
      if (is("min") || is("max")) {
        boolean least = is("min");
        now++;
        if (!is("(")) {
          throw fault(1);
        }
        opening();
        Formula a = sum(words);
        need(",");
        Formula b = sum(words);
        need(")");
        open--;
        return env -> least ? Math.min(a.of(env), b.of(env)) : Math.max(a.of(env), b.of(env));
      }
      if ((is("lit") || is("from")) && words.contains(t.text)) {
        opening();
        Formula inner = part(words);
        open--;
        String word = t.text;
        return env -> store.told(word, inner.of(env), env.get("number"));
      }
      if (t.sort == 'w' && !t.glued && words.contains(t.text)) {
        now++;
        return env -> env.get(t.text);
      }
      throw fault(1);
    }
  }

  private interface Store {
    int told(String word, int number, int house);
  }

  private static final class Stand implements Cloneable {
    int hour;
    int mile;
    int strength;
    int who = -1;
    int[] miles;
    boolean[] aside;
    boolean[] passed;
    List<int[]> kept = new ArrayList<>();

    Stand copy() {
      Stand s = new Stand();
      s.hour = hour;
      s.mile = mile;
      s.strength = strength;
      s.who = who;
      s.miles = miles.clone();
      s.aside = aside.clone();
      s.passed = passed.clone();
      s.kept = new ArrayList<>(kept);
      return s;
    }
  }

  /** The document, told once more without a thought for room or speed. */
  private static final class Model {
    static final int NONE = -1;
    final List<Integer> tape = new ArrayList<>();
    Plan plan;
    Stand stand;
    final Deque<Stand> before = new ArrayDeque<>();
    List<int[]> rows = new ArrayList<>();
    long x = 1;
    int faultCode = 0;
    int faultPlace = NONE;
    int[] image = new int[0];
    final int[] refused = new int[6];

    int feed(int[] five) {
      if (tape.size() + 20 > 1600) {
        return no(0);
      }
      for (int n : five) {
        for (int shift = 24; shift >= 0; shift -= 8) {
          tape.add(n >>> shift & 255);
        }
      }
      return tape.size();
    }

    int no(int sort) {
      refused[sort]++;
      return NONE;
    }

    boolean end(int n) {
      if (n < 0 || n > tape.size()) {
        return no(0) == 0;
      }
      while (tape.size() > n) {
        tape.remove(tape.size() - 1);
      }
      return true;
    }

    String takeText() {
      StringBuilder text = new StringBuilder();
      for (int b : tape) {
        text.append((char) b);
      }
      tape.clear();
      return text.toString();
    }

    int course() {
      try {
        Plan told = new Parser(takeText()).course();
        plan = told;
      } catch (Fault f) {
        faultCode = f.code;
        faultPlace = f.place;
        return no(1);
      }
      faultCode = 0;
      faultPlace = NONE;
      stand = new Stand();
      stand.strength = plan.dark;
      stand.miles = new int[plan.bearers.size()];
      stand.aside = new boolean[plan.bearers.size()];
      stand.passed = new boolean[plan.houses.size()];
      for (int i = 0; i < stand.miles.length; i++) {
        stand.miles[i] = plan.bearers.get(i).mile;
        if (stand.who < 0 || stand.miles[i] < stand.miles[stand.who]) {
          stand.who = i;
        }
      }
      stand.mile = stand.who < 0 ? 0 : stand.miles[stand.who];
      before.clear();
      rows = new ArrayList<>();
      return plan.statements;
    }

    int fault(int what) {
      return what == 0 ? faultCode : what == 1 ? faultPlace : NONE;
    }

    boolean through(Stand s) {
      return s.strength > 0 && s.mile == plan.miles;
    }

    int has(int what) {
      if (what < 0 || what > 11) {
        return NONE;
      }
      if (plan == null) {
        return what == 6 ? NONE : 0;
      }
      int passed = 0;
      for (boolean p : stand.passed) {
        passed += p ? 1 : 0;
      }
      int[] all = {plan.miles, plan.bearers.size(), plan.houses.size(), stand.hour, stand.mile,
        stand.strength, stand.who, passed, through(stand) ? 1 : 0, Math.min(40, stand.kept.size()),
        rows.size(), before.size()};
      return all[what];
    }

    int letter(int kind, int which, int k) {
      if (plan == null || kind < 0 || kind > 1 || k < 0 || k > 5 || which < 0) {
        return NONE;
      }
      if (which >= (kind == 0 ? plan.bearers.size() : plan.houses.size())) {
        return NONE;
      }
      String name = kind == 0 ? plan.bearers.get(which).name : plan.houses.get(which).name;
      return k < name.length() ? name.charAt(k) - 'a' + 1 : 0;
    }

    boolean isBearer(int b) {
      return plan != null && b >= 0 && b < plan.bearers.size();
    }

    boolean takes(Stand s, int b) {
      Map<String, Integer> env = Map.of("hour", s.hour, "strength", s.strength,
          "light", plan.lightAt(s.miles[b], s.hour), "pace", plan.bearers.get(b).pace,
          "far", Math.abs(s.miles[b] - s.mile));
      return plan.takes.of(env) == 1;
    }

    int bearer(int b, int what) {
      if (!isBearer(b) || what < 0 || what > 3) {
        return NONE;
      }
      int[] all = {stand.miles[b], plan.bearers.get(b).pace, stand.aside[b] ? 1 : 0,
        takes(stand, b) ? 1 : 0};
      return all[what];
    }

    int house(int h, int what) {
      if (plan == null || h < 0 || h >= plan.houses.size() || what < 0 || what > 2) {
        return NONE;
      }
      int[] all = {plan.houses.get(h).mile, plan.houses.get(h).care, stand.passed[h] ? 1 : 0};
      return all[what];
    }

    int light(int mile, int n) {
      if (plan == null || mile < 0 || mile > plan.miles || n < 0 || n > 60 || stand.hour + n > 999) {
        return NONE;
      }
      return plan.lightAt(mile, stand.hour + n);
    }

    int kept(int k, int what) {
      if (plan == null || k < 0 || k >= has(9) || what < 0 || what > 3) {
        return NONE;
      }
      return stand.kept.get(stand.kept.size() - has(9) + k)[what];
    }

    /** One HOUR; how many miles it was run. */
    int hour(Stand s) {
      int run = 0;
      if (s.who >= 0 && s.strength > 0 && !through(s)) {
        int from = s.mile;
        int runner = s.who;
        int to = Math.min(plan.miles, from + plan.bearers.get(runner).pace);
        List<int[]> met = new ArrayList<>();
        for (int b = 0; b < s.miles.length; b++) {
          if (b != runner && !s.aside[b] && s.miles[b] > from && s.miles[b] <= to) {
            met.add(new int[] {s.miles[b], b});
          }
        }
        met.sort((p, q) -> p[0] != q[0] ? p[0] - q[0] : p[1] - q[1]);
        int handed = 0;
        for (int[] m : met) {
          if (takes(s, m[1])) {
            handed = 1;
            to = m[0];
            s.who = m[1];
            break;
          }
        }
        s.mile = to;
        s.miles[runner] = to;
        run = to - from;
        for (int h = 0; h < s.passed.length; h++) {
          House house = plan.houses.get(h);
          if (house.mile > from && house.mile <= to && house.care <= s.strength) {
            s.passed[h] = true;
          }
        }
        int strength = plan.wanes.of(Map.of("hour", s.hour, "strength", s.strength, "light",
            plan.lightAt(to, s.hour), "pace", plan.bearers.get(runner).pace, "handed", handed,
            "run", run));
        s.strength = Math.max(0, Math.min(99, strength));
        s.kept.add(new int[] {s.hour, runner, to, s.strength});
      }
      s.hour = Math.min(999, s.hour + 1);
      return run;
    }

    Stand behind(Stand from, int n) {
      Stand s = from.copy();
      for (int i = 0; i < n; i++) {
        hour(s);
      }
      return s;
    }

    int later(int n, int what) {
      if (plan == null || n < 0 || n > 60 || stand.hour + n > 999 || what < 0 || what > 3) {
        return NONE;
      }
      Stand s = behind(stand, n);
      int bits = 0;
      for (int h = 0; h < s.passed.length; h++) {
        bits += s.passed[h] ? 1 << h : 0;
      }
      return new int[] {s.mile, s.strength, s.who, bits}[what];
    }

    /** The hours to THROUGH and the strength then, or null. */
    int[] comes(Stand from) {
      Stand s = from.copy();
      for (int n = 0; n <= 60 && from.hour + n <= 999; n++) {
        if (through(s)) {
          return new int[] {n, s.strength};
        }
        hour(s);
      }
      return null;
    }

    int through() {
      if (plan == null) {
        return NONE;
      }
      int[] told = comes(stand);
      return told == null ? NONE : told[0];
    }

    int few() {
      if (plan == null) {
        return NONE;
      }
      int count = plan.bearers.size();
      for (int size = 0; size <= count; size++) {
        for (int bits = 0; bits < 1 << count; bits++) {
          if (Integer.bitCount(bits) != size) {
            continue;
          }
          Stand s = stand.copy();
          boolean can = true;
          for (int b = 0; b < count; b++) {
            boolean in = (bits >> b & 1) == 1;
            can = can && !(in && (b == stand.who || stand.aside[b]));
            s.aside[b] = !in && b != stand.who;
          }
          if (can && comes(s) != null) {
            return bits;
          }
        }
      }
      return NONE;
    }

    int post(int b, int what) {
      if (!isBearer(b) || b == stand.who || what < 0 || what > 1) {
        return NONE;
      }
      int[] best = {NONE, NONE};
      for (int mile = plan.miles; mile >= 0; mile--) {
        Stand s = stand.copy();
        s.miles[b] = mile;
        int[] told = comes(s);
        if (told != null && told[1] >= best[1]) {
          best = new int[] {mile, told[1]};
        }
      }
      return best[what];
    }

    int change(int what) {
      if (plan == null || what < 0 || what > 2) {
        return NONE;
      }
      int[] told = comes(stand);
      int[] best = {NONE, NONE, told == null ? 0 : told[1]};
      for (int i = 0; i < stand.miles.length; i++) {
        for (int j = i + 1; j < stand.miles.length; j++) {
          if (i == stand.who || j == stand.who) {
            continue;
          }
          Stand s = stand.copy();
          s.miles[i] = stand.miles[j];
          s.miles[j] = stand.miles[i];
          told = comes(s);
          if (told != null && told[1] > best[2]) {
            best = new int[] {i, j, told[1]};
          }
        }
      }
      return best[what];
    }

    int least() {
      if (plan == null) {
        return NONE;
      }
      for (int strength = 1; strength <= 99; strength++) {
        Stand s = stand.copy();
        s.strength = strength;
        if (comes(s) != null) {
          return strength;
        }
      }
      return NONE;
    }

    int odds() {
      if (plan == null || stand.hour == 999) {
        return NONE;
      }
      int rows = 0;
      for (int a = 0; a < 100; a++) {
        for (int b = 0; b < 10; b++) {
          Stand s = stand.copy();
          if (a < plan.trip) {
            s.strength = Math.max(0, s.strength - b);
          }
          hour(s);
          rows += s.strength > 0 ? 1 : 0;
        }
      }
      return rows;
    }

    int see() {
      List<Integer> bytes = new ArrayList<>(tape);
      tape.clear();
      List<int[]> told = new ArrayList<>();
      boolean good = plan != null && bytes.size() % 3 == 0 && bytes.size() >= 3 && bytes.size() <= 48;
      for (int i = 0; good && i < bytes.size(); i += 3) {
        told.add(new int[] {bytes.get(i), bytes.get(i + 1), bytes.get(i + 2)});
        good = bytes.get(i) <= 30 && bytes.get(i + 1) < plan.houses.size() && bytes.get(i + 2) <= 1;
      }
      if (!good) {
        return no(1);
      }
      rows = told;
      return rows.size();
    }

    List<Integer> left() {
      List<Integer> left = new ArrayList<>();
      for (int strength = 0; strength <= 99; strength++) {
        boolean fits = true;
        Stand from = stand.copy();
        from.strength = strength;
        for (int[] row : rows) {
          fits = fits && stand.hour + row[0] <= 999
              && behind(from, row[0]).passed[row[1]] == (row[2] == 1);
        }
        if (fits) {
          left.add(strength);
        }
      }
      return left;
    }

    int strengths(int k) {
      if (plan == null) {
        return NONE;
      }
      List<Integer> left = left();
      return k == NONE ? left.size() : k >= 0 && k < left.size() ? left.get(k) : NONE;
    }

    int tells(int what) {
      if (plan == null || what < 0 || what > 2) {
        return NONE;
      }
      List<Integer> left = left();
      int[] best = null;
      if (left.isEmpty()) {
        return NONE;
      }
      List<Stand> stands = new ArrayList<>();
      for (int strength : left) {
        Stand s = stand.copy();
        s.strength = strength;
        stands.add(s);
      }
      for (int n = 1; n <= 30 && stand.hour + n <= 999; n++) {
        for (Stand s : stands) {
          hour(s);
        }
        for (int h = 0; h < plan.houses.size(); h++) {
          int passed = 0;
          for (Stand s : stands) {
            passed += s.passed[h] ? 1 : 0;
          }
          int most = Math.max(passed, left.size() - passed);
          if (best == null || most < best[2]) {
            best = new int[] {n, h, most};
          }
        }
      }
      return best == null ? NONE : best[what];
    }

    boolean waits(int b) {
      return isBearer(b) && b != stand.who;
    }

    void act() {
      before.addLast(stand.copy());
      if (before.size() > 20) {
        before.removeFirst();
      }
    }

    boolean place(int b, int mile) {
      if (!waits(b) || mile < 0 || mile > plan.miles || stand.miles[b] == mile) {
        return no(2) == 0;
      }
      act();
      stand.miles[b] = mile;
      return true;
    }

    boolean aside(int b, int on) {
      if (!waits(b) || on != 0 && on != 1 || stand.aside[b] == (on == 1)) {
        return no(2) == 0;
      }
      act();
      stand.aside[b] = on == 1;
      return true;
    }

    boolean kindle(int strength) {
      if (plan == null || strength < 0 || strength > 99 || strength == stand.strength) {
        return no(2) == 0;
      }
      act();
      stand.strength = strength;
      return true;
    }

    boolean canHours(int n) {
      return plan != null && n >= 1 && n <= 100 && stand.hour + n <= 999;
    }

    int hours(int n) {
      if (!canHours(n)) {
        return no(3);
      }
      act();
      int run = 0;
      for (int i = 0; i < n; i++) {
        run += hour(stand);
      }
      return run;
    }

    int draw(int m) {
      x = Math.floorMod(1103515245L * x + 12345L, 1L << 31);
      return (int) (x / 64 % m);
    }

    int chance(int n) {
      if (!canHours(n)) {
        return no(3);
      }
      act();
      int trips = 0;
      for (int i = 0; i < n; i++) {
        if (draw(100) < plan.trip) {
          trips++;
          stand.strength = Math.max(0, stand.strength - draw(10));
        }
        hour(stand);
      }
      return trips;
    }

    boolean undo() {
      if (before.isEmpty()) {
        return no(4) == 0;
      }
      stand = before.removeLast();
      return true;
    }

    boolean seed(int seed) {
      if (seed < 0) {
        return no(5) == 0;
      }
      x = seed;
      return true;
    }

    long ask() {
      String text = takeText();
      if (plan == null) {
        return PassedDark.NOTHING;
      }
      String kind;
      Formula formula;
      try {
        Parser parser = new Parser(text);
        parser.store = this::told;
        Token t = parser.peek();
        kind = t.text;
        if (t.sort != 'w' || !Set.of("first", "last", "often", "total", "most", "least").contains(kind)) {
          throw parser.fault(1);
        }
        parser.now++;
        Set<String> words = Set.of("number", "mile", "care", "passed", "far", "strength", "hour",
            "lit", "from");
        boolean isTest = kind.equals("first") || kind.equals("last") || kind.equals("often");
        formula = isTest ? parser.test(words) : parser.sum(words);
        if (parser.peek().sort != 'e') {
          throw parser.fault(1);
        }
      } catch (Fault f) {
        faultCode = f.code;
        faultPlace = f.place;
        return PassedDark.NOTHING;
      }
      faultCode = 0;
      faultPlace = NONE;
      return answer(kind, formula);
    }

    long answer(String kind, Formula formula) {
      List<Integer> values = new ArrayList<>();
      for (int h = 0; h < plan.houses.size(); h++) {
        House house = plan.houses.get(h);
        values.add(formula.of(Map.of("number", h, "mile", house.mile, "care", house.care,
            "passed", stand.passed[h] ? 1 : 0, "far", Math.abs(house.mile - stand.mile),
            "strength", stand.strength, "hour", stand.hour)));
      }
      switch (kind) {
        case "first": return values.indexOf(1);
        case "last": return values.lastIndexOf(1);
        case "often": return values.stream().filter(v -> v == 1).count();
        case "total": return values.stream().mapToLong(v -> v).sum();
        case "most": return values.stream().mapToLong(v -> v).max().orElse(0);
        default: return values.stream().mapToLong(v -> v).min().orElse(0);
      }
    }

    int told(String word, int number, int house) {
      int mile = plan.houses.get(house).mile;
      if (word.equals("lit")) {
        return number < 0 || number > 999 ? 0 : plan.lightAt(mile, number);
      }
      return isBearer(number) ? Math.abs(stand.miles[number] - mile) : -1;
    }

    int image() {
      List<Integer> bytes = new ArrayList<>();
      if (plan == null) {
        bytes.addAll(List.of(0, 0, 0, 0, 255));
      } else {
        bytes.addAll(List.of(stand.hour >> 8, stand.hour & 255, stand.mile, stand.strength,
            stand.who < 0 ? 255 : stand.who));
        for (int b = 0; b < stand.miles.length; b++) {
          bytes.add(stand.miles[b]);
          bytes.add(stand.aside[b] ? 1 : 0);
        }
        for (boolean p : stand.passed) {
          bytes.add(p ? 1 : 0);
        }
      }
      bytes.add(sum(bytes));
      image = bytes.stream().mapToInt(b -> b).toArray();
      return image.length;
    }

    static int sum(List<Integer> bytes) {
      int c = 199;
      for (int b : bytes) {
        c = (3 * c + b) % 251;
      }
      return c;
    }

    int octet(int k) {
      return k >= 0 && k < image.length ? image[k] : NONE;
    }

    boolean on() {
      List<Integer> bytes = new ArrayList<>(tape);
      tape.clear();
      Stand told = plan == null ? null : read(bytes);
      if (told == null) {
        return no(5) == 0;
      }
      stand = told;
      before.clear();
      return true;
    }

    Stand read(List<Integer> bytes) {
      int bearers = plan.bearers.size();
      int houses = plan.houses.size();
      if (bytes.size() != 6 + 2 * bearers + houses) {
        return null;
      }
      int last = bytes.size() - 1;
      if (sum(bytes.subList(0, last)) != bytes.get(last)) {
        return null;
      }
      Stand s = new Stand();
      s.hour = bytes.get(0) * 256 + bytes.get(1);
      s.mile = bytes.get(2);
      s.strength = bytes.get(3);
      s.who = bytes.get(4) == 255 ? -1 : bytes.get(4);
      s.miles = new int[bearers];
      s.aside = new boolean[bearers];
      s.passed = new boolean[houses];
      boolean good = s.hour <= 999 && s.mile <= plan.miles && s.strength <= 99;
      for (int b = 0; b < bearers; b++) {
        s.miles[b] = bytes.get(5 + 2 * b);
        s.aside[b] = bytes.get(6 + 2 * b) == 1;
        good = good && s.miles[b] <= plan.miles && bytes.get(6 + 2 * b) <= 1;
      }
      for (int h = 0; h < houses; h++) {
        s.passed[h] = bytes.get(5 + 2 * bearers + h) == 1;
        good = good && bytes.get(5 + 2 * bearers + h) <= 1;
      }
      if (bearers == 0) {
        good = good && s.who == -1;
      } else {
        good = good && isBearer(s.who) && !s.aside[s.who] && s.miles[s.who] == s.mile;
      }
      return good ? s : null;
    }

    int status(int what) {
      return what >= 0 && what < 6 ? refused[what] : NONE;
    }
  }
}
