import java.util.function.BooleanSupplier;

/** Promises 1, 6 to 11, 22 to 28 and Terms II: a test for each sentence that names a boundary case. */
public final class HourEdgesTest {
  private static int wrong = 0;
  private static String sentence = "";

  private static void edge(String words, Runnable test) {
    sentence = words;
    test.run();
  }

  private static void due(String call, long got, long want) {
    if (got != want) {
      wrong++;
      System.out.println(sentence + " - " + call + " answered " + got + ", due is " + want);
    }
  }

  private static void due(String call, boolean got, boolean want) {
    due(call, got ? 1 : 0, want ? 1 : 0);
  }

  private static void feed(PassedDark x, String text) {
    for (int at = 0; at < text.length(); at += 20) {
      int[] five = new int[5];
      for (int i = 0; i < 20; i++) {
        five[i / 4] = five[i / 4] << 8 | (at + i < text.length() ? text.charAt(at + i) & 255 : 32);
      }
      x.feed(five[0], five[1], five[2], five[3], five[4]);
    }
    x.end(text.length());
  }

  private static PassedDark course(String text) {
    PassedDark x = new PassedDark();
    feed(x, text);
    due("course() of " + text, x.course() > 0, true);
    return x;
  }

  private static final int[] FAR_OFF = {Integer.MIN_VALUE, -256, -2, -1};

  /** All that can be looked at of a course with two bearers and two houses. */
  private static String all(PassedDark x) {
    StringBuilder told = new StringBuilder();
    for (int what = 0; what <= 11; what++) {
      told.append(x.has(what)).append(' ');
    }
    for (int i = 0; i < 2; i++) {
      for (int what = 0; what <= 3; what++) {
        told.append(x.bearer(i, what)).append(' ').append(x.house(i, what)).append(' ')
            .append(x.kept(i, what)).append(' ').append(x.later(3 * i, what)).append(' ');
      }
    }
    return told.toString();
  }

  /** A call that is refused: false, counted once as refused of its sort, all staying. */
  private static void refused(PassedDark x, int sort, String call, BooleanSupplier calling) {
    int count = x.status(sort);
    String ahead = all(x);
    due(call, calling.getAsBoolean(), false);
    due("status(" + sort + ") behind " + call, x.status(sort), count + 1);
    due("all as ahead of " + call, all(x).equals(ahead), true);
  }

  private static void later(PassedDark x, int n, int mile, int strength, int who, int passed) {
    due("later(" + n + ",0)", x.later(n, 0), mile);
    due("later(" + n + ",1)", x.later(n, 1), strength);
    due("later(" + n + ",2)", x.later(n, 2), who);
    due("later(" + n + ",3)", x.later(n, 3), passed);
  }

  /** Goes on by many hours, a hundred at a time. */
  private static void goOn(PassedDark x, int hours) {
    for (int left = hours; left > 0; left -= 100) {
      x.hours(Math.min(left, 100));
    }
  }

  public static void main(String[] args) {
    aheadOfACourse();
    atFirst();
    anHour();
    hands();
    houses();
    waning();
    trips();
    kept();
    looks();
    place();
    aside();
    kindle();
    hours();
    chance();
    undo();
    seed();
    if (wrong != 0) {
      System.exit(1);
    }
  }

  // ---------------------------------------------------------------- promises 1 and 6 ahead of a course

  private static void aheadOfACourse() {
    edge("1: no course, no dark", () -> {
      PassedDark x = new PassedDark();
      due("letter(0,0,0)", x.letter(0, 0, 0), -1);
      due("bearer(0,0)", x.bearer(0, 0), -1);
      due("house(0,0)", x.house(0, 0), -1);
      due("light(0,0)", x.light(0, 0), -1);
      due("later(0,0)", x.later(0, 0), -1);
      due("kept(0,0)", x.kept(0, 0), -1);
      due("strengths(-1)", x.strengths(-1), -1);
      due("octet(0)", x.octet(0), -1);
      due("end(1)", x.end(1), false);
      for (int what = 0; what < 6; what++) {
        due("status(" + what + ")", x.status(what), what == 0 ? 1 : 0);
      }
    });
    edge("6: ahead of a course 0, NONE of 6", () -> {
      PassedDark x = new PassedDark();
      for (int what = 0; what <= 11; what++) {
        due("has(" + what + ")", x.has(what), what == 6 ? -1 : 0);
      }
    });
    edge("6: ahead of a course NONE for others", () -> {
      PassedDark x = new PassedDark();
      due("has(12)", x.has(12), -1);
      for (int what : FAR_OFF) {
        due("has(" + what + ")", x.has(what), -1);
      }
    });
    edge("constants: NONE, NOTHING", () -> {
      due("NONE", PassedDark.NONE, -1);
      due("NOTHING", PassedDark.NOTHING, -1000000000000000L);
    });
  }

  // ---------------------------------------------------------------- Terms II

  private static void atFirst() {
    edge("II: LIGHT is 0 .. 9, below is 0, above 9", () -> {
      PassedDark x = course("course 20;light mile-3;");
      int[] light = {0, 0, 0, 0, 1, 2, 3, 4, 5, 6, 7, 8, 9, 9, 9};
      for (int mile = 0; mile < light.length; mile++) {
        due("light(" + mile + ",0)", x.light(mile, 0), light[mile]);
      }
      due("light of 10 to the 6", course("course 9;light 9999*9999;").light(0, 0), 9);
      due("light of -10 to the 6", course("course 9;light 0-9999*9999;").light(0, 0), 0);
    });
    edge("II: HOUR 0 at first", () -> {
      due("has(3)", course("course 9;").has(3), 0);
      due("light(0,1)", course("course 9;light hour;").light(0, 1), 1);
    });
    edge("II: the BEARER of the least MILE has it, there", () -> {
      PassedDark x = course("course 9;bearer a at 9 pace 1;bearer b at 1 pace 1;bearer c at 2 pace 1;");
      due("has(6)", x.has(6), 1);
      due("has(4)", x.has(4), 1);
      x = course("course 9;bearer a at 9 pace 1;bearer b at 8 pace 1;bearer c at 7 pace 1;");
      due("has(6) of the last one", x.has(6), 2);
      due("has(4)", x.has(4), 7);
    });
    edge("II: of like ones the first has it", () -> {
      PassedDark x = course("course 9;bearer a at 3 pace 1;bearer b at 2 pace 1;bearer c at 2 pace 1;");
      due("has(6)", x.has(6), 1);
      due("has(6)", course("course 9;bearer a at 0 pace 1;bearer b at 0 pace 1;").has(6), 0);
    });
    edge("II: nobody has it, at MILE 0, without BEARERS", () -> {
      PassedDark x = course("course 9;house h at 3 care 0;");
      due("has(6)", x.has(6), -1);
      due("has(4)", x.has(4), 0);
      later(x, 60, 0, 50, -1, 0);
      PassedDark behind = course("course 9;bearer a at 4 pace 1;");
      behind.hours(2);
      feed(behind, "course 9;");
      behind.course();
      due("has(6) behind another course", behind.has(6), -1);
      due("has(4) behind another course", behind.has(4), 0);
    });
    edge("II: nobody is ASIDE at first, no HOUSE is PASSED", () -> {
      PassedDark x = course("course 9;bearer a at 2 pace 1;bearer b at 2 pace 1;"
          + "house h at 2 care 0;house k at 0 care 0;");
      due("bearer(0,2)", x.bearer(0, 2), 0);
      due("bearer(1,2)", x.bearer(1, 2), 0);
      due("has(7)", x.has(7), 0);
      due("house(0,2)", x.house(0, 2), 0);
    });
    edge("II: it is OUT, if its strength is 0", () -> {
      PassedDark x = course("course 9;bearer a at 0 pace 2;dark 1;");
      due("hours(1) of strength 1", x.hours(1), 2);
      x.kindle(0);
      due("hours(1) of strength 0", x.hours(1), 0);
    });
    edge("II: it is THROUGH, if it is at the last MILE", () -> {
      PassedDark x = course("course 9;bearer a at 0 pace 4;");
      x.hours(2);
      due("has(8) at mile 8", x.has(8), 0);
      x.hours(1);
      due("has(8) at mile 9", x.has(8), 1);
      due("has(8) at once", course("course 9;bearer a at 9 pace 4;").has(8), 1);
    });
    edge("II: THROUGH it is not, if it is OUT", () -> {
      PassedDark x = course("course 5;bearer a at 5 pace 1;");
      x.kindle(1);
      due("has(8) of strength 1", x.has(8), 1);
      x.kindle(0);
      due("has(8) of strength 0", x.has(8), 0);
      PassedDark late = course("course 5;bearer a at 4 pace 1;wanes 0;");
      late.hours(1);
      due("has(4)", late.has(4), 5);
      due("has(8) of one that goes out there", late.has(8), 0);
    });
  }

  private static void anHour() {
    edge("II: it is RUN, if a BEARER has the dark", () -> {
      PassedDark x = course("course 9;house h at 0 care 0;wanes 7;");
      due("hours(1)", x.hours(1), 0);
      due("has(4)", x.has(4), 0);
      due("has(5) does not wane", x.has(5), 50);
      due("has(9)", x.has(9), 0);
    });
    edge("II: it is RUN, if it is not OUT", () -> {
      PassedDark x = course("course 9;bearer a at 0 pace 1;wanes 7;");
      x.kindle(0);
      due("hours(1)", x.hours(1), 0);
      due("has(5)", x.has(5), 0);
      due("has(9)", x.has(9), 0);
    });
    edge("II: it is RUN, if it is not THROUGH", () -> {
      PassedDark x = course("course 9;bearer a at 9 pace 1;wanes 7;");
      due("hours(3)", x.hours(3), 0);
      due("has(5) does not wane", x.has(5), 50);
      due("has(9)", x.has(9), 0);
    });
    edge("II: he goes on by as many MILES as his pace", () -> {
      for (int pace = 1; pace <= 9; pace++) {
        PassedDark x = course("course 99;bearer a at 3 pace " + pace + ";");
        due("hours(1) at pace " + pace, x.hours(1), pace);
        due("has(4)", x.has(4), 3 + pace);
      }
    });
    edge("II: to the last MILE at most", () -> {
      PassedDark x = course("course 5;bearer a at 1 pace 9;wanes run;");
      due("hours(1)", x.hours(1), 4);
      due("has(4)", x.has(4), 5);
      due("has(5), as many as it was run", x.has(5), 4);
      PassedDark y = course("course 9;bearer a at 0 pace 9;wanes run;");
      due("hours(1) to it", y.hours(1), 9);
      due("bearer(0,0)", y.bearer(0, 0), 9);
    });
    edge("II: the HOUR is one more in any case", () -> {
      PassedDark run = course("course 9;bearer a at 0 pace 1;");
      run.hours(1);
      due("has(3), run", run.has(3), 1);
      PassedDark nobody = course("course 9;");
      nobody.hours(3);
      due("has(3), nobody", nobody.has(3), 3);
      PassedDark out = course("course 9;bearer a at 0 pace 1;");
      out.kindle(0);
      out.hours(3);
      due("has(3), out", out.has(3), 3);
      PassedDark through = course("course 9;bearer a at 9 pace 1;");
      through.hours(3);
      due("has(3), through", through.has(3), 3);
      through.chance(2);
      due("has(3) by the seed", through.has(3), 5);
    });
    edge("II: HOUR 999 at most", () -> {
      PassedDark x = course("course 9;bearer a at 0 pace 1;light hour-990;");
      goOn(x, 999);
      due("has(3)", x.has(3), 999);
      due("light(0,0)", x.light(0, 0), 9);
      x.hours(1);
      x.chance(1);
      due("has(3)", x.has(3), 999);
    });
  }

  private static void hands() {
    edge("II: the MILE of the BEARER who has it is where it is", () -> {
      PassedDark x = course("course 20;bearer a at 0 pace 3;bearer b at 5 pace 4;");
      int[][] rows = {{0, 0}, {3, 0}, {5, 1}, {9, 1}, {13, 1}, {17, 1}, {20, 1}, {20, 1}};
      for (int[] row : rows) {
        due("has(4)", x.has(4), row[0]);
        due("has(6)", x.has(6), row[1]);
        due("bearer(" + row[1] + ",0)", x.bearer(row[1], 0), row[0]);
        x.hours(1);
      }
    });
    edge("II: who has handed it over stays at the MILE where he did", () -> {
      PassedDark x = course("course 20;bearer a at 0 pace 9;bearer b at 5 pace 4;");
      x.hours(1);
      due("bearer(0,0)", x.bearer(0, 0), 5);
      x.hours(2);
      due("bearer(0,0)", x.bearer(0, 0), 5);
    });
    edge("II: and he waits there", () -> {
      PassedDark x = course("course 20;bearer a at 0 pace 9;bearer b at 5 pace 4;");
      x.hours(1);
      due("bearer(0,2)", x.bearer(0, 2), 0);
      due("place(0,5), where he waits", x.place(0, 5), false);
      x.place(0, 7);
      x.hours(1);
      due("has(6): he takes it once more", x.has(6), 0);
    });
    edge("II: of those whose MILE is beyond where it is", () -> {
      PassedDark x = course("course 20;bearer a at 4 pace 3;bearer b at 4 pace 9;");
      later(x, 1, 7, 50, 0, 0);
      PassedDark behind = course("course 20;bearer a at 4 pace 3;bearer b at 9 pace 9;");
      behind.place(1, 0);
      later(behind, 1, 7, 50, 0, 0);
      PassedDark next = course("course 20;bearer a at 4 pace 3;bearer b at 5 pace 9;");
      later(next, 1, 5, 50, 1, 0);
    });
    edge("II: of those whose MILE is one of these", () -> {
      later(course("course 20;bearer a at 4 pace 3;bearer b at 7 pace 9;"), 1, 7, 50, 1, 0);
      later(course("course 20;bearer a at 4 pace 3;bearer b at 8 pace 9;"), 1, 7, 50, 0, 0);
      later(course("course 20;bearer a at 18 pace 3;bearer b at 20 pace 9;"), 1, 20, 50, 1, 0);
    });
    edge("II: of those who are not ASIDE", () -> {
      PassedDark x = course("course 20;bearer a at 0 pace 6;bearer b at 2 pace 9;bearer c at 4 pace 9;");
      x.aside(1, 1);
      later(x, 1, 4, 50, 2, 0);
      x.aside(2, 1);
      later(x, 1, 6, 50, 0, 0);
      x.aside(1, 0);
      later(x, 1, 2, 50, 1, 0);
    });
    edge("II: in the order in which he comes to them", () -> later(
        course("course 20;bearer a at 0 pace 6;bearer b at 4 pace 9;bearer c at 2 pace 9;"),
        1, 2, 50, 2, 0));
    edge("II: of like MILES by numbers", () -> {
      later(course("course 20;bearer a at 0 pace 6;bearer b at 4 pace 9;bearer c at 4 pace 9;"),
          1, 4, 50, 1, 0);
      later(course("course 20;bearer b at 4 pace 9;bearer a at 0 pace 6;bearer c at 4 pace 9;"),
          1, 4, 50, 0, 0);
    });
    edge("II: the first one for whom the TEST holds", () -> {
      String text = "course 20;bearer a at 0 pace 6;bearer b at 2 pace 2;bearer c at 2 pace 3;"
          + "bearer d at 4 pace 4;takes pace>";
      later(course(text + "1;"), 1, 2, 50, 1, 0);
      later(course(text + "2;"), 1, 2, 50, 2, 0);
      later(course(text + "3;"), 1, 4, 50, 3, 0);
      later(course(text + "4;"), 1, 6, 50, 0, 0);
    });
    edge("II: far is how many MILES from where it was as the HOUR began", () -> {
      String text = "course 20;bearer a at 3 pace 6;bearer b at 5 pace 2;bearer c at 8 pace 3;takes far=";
      later(course(text + "2;"), 1, 5, 50, 1, 0);
      later(course(text + "5;"), 1, 8, 50, 2, 0);
      later(course(text + "3;"), 1, 9, 50, 0, 0);
    });
    edge("II: it comes no further than to him", () -> {
      PassedDark x = course("course 20;bearer a at 0 pace 9;bearer b at 1 pace 9;house h at 2 care 0;"
          + "house k at 1 care 0;wanes run+10*handed;");
      due("hours(1)", x.hours(1), 1);
      due("has(4)", x.has(4), 1);
      due("has(5)", x.has(5), 11);
      due("later(0,3)", x.later(0, 3), 2);
    });
    edge("II: handed is 1 if it is handed over, else 0", () -> {
      String text = "course 9;bearer a at 0 pace 3;bearer b at 3 pace 1;wanes 20+handed;takes ";
      due("later(1,1)", course(text + "all;").later(1, 1), 21);
      due("later(1,1)", course(text + "not all;").later(1, 1), 20);
    });
  }

  private static void houses() {
    edge("II: HOUSES at the MILES to which it has come, not where it was", () -> {
      PassedDark x = course("course 20;bearer a at 2 pace 3;house f at 1 care 0;house h at 2 care 0;"
          + "house k at 3 care 0;house l at 5 care 0;house m at 6 care 0;");
      due("later(1,3)", x.later(1, 3), 4 + 8);
      due("later(2,3)", x.later(2, 3), 4 + 8 + 16);
    });
    edge("II: a HOUSE at the last MILE", () -> due("later(1,3)",
        course("course 5;bearer a at 0 pace 9;house h at 5 care 0;house k at 0 care 0;").later(1, 3), 1));
    edge("II: whose care is no more than its strength", () -> {
      String text = "course 9;bearer a at 0 pace 3;house h at 1 care 49;house k at 1 care 50;"
          + "house l at 1 care 51;house m at 1 care 0;house n at 1 care 99;dark ";
      due("later(1,3) of 50", course(text + "50;").later(1, 3), 1 + 2 + 8);
      due("later(1,3) of 51", course(text + "51;").later(1, 3), 1 + 2 + 4 + 8);
      due("later(1,3) of 1", course(text + "1;").later(1, 3), 8);
      due("later(1,3) of 99", course(text + "99;").later(1, 3), 31);
    });
    edge("II: its strength ahead of the HOUR", () -> {
      String text = "course 9;bearer a at 0 pace 3;house h at 1 care 50;house k at 1 care 51;wanes ";
      due("later(1,3), it wanes", course(text + "0;").later(1, 3), 1);
      due("later(1,3), it grows", course(text + "99;").later(1, 3), 1);
    });
    edge("II: a HOUSE that is PASSED stays so", () -> {
      PassedDark x = course("course 9;bearer a at 0 pace 3;house h at 1 care 50;");
      x.hours(1);
      x.kindle(1);
      x.hours(3);
      due("house(0,2)", x.house(0, 2), 1);
    });
  }

  private static void waning() {
    edge("II: wanes is 0 .. 99, below is 0", () -> {
      due("of 0", course("course 9;bearer a at 0 pace 1;wanes 0;").later(1, 1), 0);
      due("of -1", course("course 9;bearer a at 0 pace 1;wanes 0-1;").later(1, 1), 0);
      due("of -10 to the 6", course("course 9;bearer a at 0 pace 1;wanes 0-9999*9999;").later(1, 1), 0);
      due("of 1", course("course 9;bearer a at 0 pace 1;wanes 1;").later(1, 1), 1);
    });
    edge("II: wanes is 0 .. 99, above is 99", () -> {
      due("of 99", course("course 9;bearer a at 0 pace 1;wanes 99;").later(1, 1), 99);
      due("of 100", course("course 9;bearer a at 0 pace 1;wanes 100;").later(1, 1), 99);
      due("of 10 to the 6", course("course 9;bearer a at 0 pace 1;wanes 9999*9999;").later(1, 1), 99);
      due("of 98", course("course 9;bearer a at 0 pace 1;wanes 98;").later(1, 1), 98);
    });
    edge("I: in wanes the light at the MILE to which it has come", () -> due("later(1,1)",
        course("course 9;bearer a at 1 pace 3;light mile;wanes 20+light;").later(1, 1), 24));
    edge("I: in takes the light where the BEARER waits", () -> {
      String text = "course 9;bearer a at 1 pace 6;bearer b at 3 pace 1;bearer c at 5 pace 1;light mile;takes light=";
      due("later(1,2)", course(text + "3;").later(1, 2), 1);
      due("later(1,2)", course(text + "5;").later(1, 2), 2);
      due("later(1,2)", course(text + "1;").later(1, 2), 0);
    });
    edge("I: in wanes the pace of the one who has run", () -> due("later(1,1)",
        course("course 9;bearer a at 0 pace 3;bearer b at 3 pace 8;wanes 20+pace;").later(1, 1), 23));
    edge("I: the HOUR, and light in this HOUR", () -> {
      PassedDark x = course("course 9;bearer a at 0 pace 1;light hour;wanes 10*light+hour+1;");
      due("later(1,1)", x.later(1, 1), 1);
      due("later(2,1)", x.later(2, 1), 12);
      due("later(3,1)", x.later(3, 1), 23);
    });
  }

  // ---------------------------------------------------------------- draws

  private static long next(long seed) {
    return (1103515245L * seed + 12345L) % (1L << 31);
  }

  private static int drawn(long seed, int below) {
    return (int) (next(seed) / 64 % below);
  }

  /** The least seed whose first draws, of 100 and of 10, are these. */
  private static int seedFor(int hundred, int ten) {
    int seed = 0;
    while (drawn(seed, 100) != hundred || drawn(next(seed), 10) != ten) {
      seed++;
    }
    return seed;
  }

  private static PassedDark tripped(String text, int hundred, int ten) {
    PassedDark x = course(text);
    x.seed(seedFor(hundred, ten));
    return x;
  }

  private static void trips() {
    edge("II: below trip there is a DRAW of 10", () -> {
      for (int trip : new int[] {1, 18, 50, 99, 100}) {
        PassedDark below = tripped("course 9;trip " + trip + ";", trip - 1, 3);
        due("chance(1), one below " + trip, below.chance(1), 1);
        due("has(5)", below.has(5), 47);
      }
      for (int trip : new int[] {0, 1, 18, 50, 99}) {
        PassedDark not = tripped("course 9;trip " + trip + ";", trip, 3);
        due("chance(1), not below " + trip, not.chance(1), 0);
        due("has(5)", not.has(5), 50);
      }
    });
    edge("II: an HOUR begins with a DRAW in any case", () -> {
      for (String text : new String[] {"course 9;trip 50;", "course 9;bearer a at 9 pace 1;trip 50;",
          "course 9;bearer a at 0 pace 9;trip 50;"}) {
        PassedDark x = tripped(text, 49, 7);
        due("chance(1) of " + text, x.chance(1), 1);
        due("has(5)", x.has(5), 43);
        PassedDark none = tripped(text, 50, 7);
        none.kindle(0);
        due("chance(1) of one that is out", none.chance(1), 0);
        int then = drawn(next(seedFor(50, 7)), 100) < 50 ? 1 : 0;
        due("chance(1) by the draw behind that", none.chance(1), then);
      }
    });
    edge("II: without a trip there is no second DRAW", () -> {
      PassedDark x = course("course 9;trip 50;");
      int seed = seedFor(50, 3);
      x.seed(seed);
      x.chance(1);
      long then = next(seed);
      due("chance(1), the next draw of 100", x.chance(1), drawn(then, 100) < 50 ? 1 : 0);
      PassedDark y = course("course 9;trip 100;");
      y.seed(seed);
      y.chance(2);
      due("has(5) by the second and the fourth draw", y.has(5),
          50 - drawn(next(seed), 10) - drawn(next(next(next(seed))), 10));
    });
    edge("II: the strength is less by that", () -> {
      for (int less = 0; less <= 9; less++) {
        PassedDark x = tripped("course 9;trip 50;", 4, less);
        due("chance(1)", x.chance(1), 1);
        due("has(5) less by " + less, x.has(5), 50 - less);
      }
    });
    edge("II: 0 at least", () -> {
      PassedDark less = tripped("course 9;trip 50;dark 3;", 4, 9);
      less.chance(1);
      due("has(5) of 3, less 9", less.has(5), 0);
      PassedDark none = tripped("course 9;trip 50;dark 9;", 4, 9);
      none.chance(1);
      due("has(5) of 9, less 9", none.has(5), 0);
      PassedDark one = tripped("course 9;trip 50;dark 9;", 4, 8);
      one.chance(1);
      due("has(5) of 9, less 8", one.has(5), 1);
      PassedDark out = tripped("course 9;trip 50;", 4, 9);
      out.kindle(0);
      due("chance(1) when it is out", out.chance(1), 1);
      due("has(5)", out.has(5), 0);
    });
    edge("I: strength ahead of the HOUR, behind a trip", () -> {
      String text = "course 9;bearer a at 0 pace 3;bearer b at 2 pace 3;trip 50;";
      PassedDark wanes = tripped(text + "wanes strength+1;takes strength=41;", 4, 9);
      wanes.chance(1);
      due("has(5)", wanes.has(5), 42);
      due("has(6)", wanes.has(6), 1);
      PassedDark not = tripped(text + "takes strength=50;", 4, 9);
      not.chance(1);
      due("has(6)", not.has(6), 0);
    });
    edge("II: houses by the strength behind a trip", () -> {
      PassedDark x = tripped("course 9;bearer a at 0 pace 3;house h at 1 care 41;house k at 1 care 42;trip 50;", 4, 9);
      x.chance(1);
      due("house(0,2)", x.house(0, 2), 1);
      due("house(1,2)", x.house(1, 2), 0);
    });
    edge("II: one that a trip puts OUT is not RUN", () -> {
      PassedDark x = tripped("course 9;bearer a at 0 pace 3;wanes 99;trip 50;dark 9;", 4, 9);
      x.chance(1);
      due("has(4)", x.has(4), 0);
      due("has(5)", x.has(5), 0);
      due("has(9)", x.has(9), 0);
      due("has(3)", x.has(3), 1);
    });
    edge("II: a DRAW is by x mod 2 to the 31", () -> {
      for (int seed : new int[] {0, 1, Integer.MAX_VALUE, Integer.MAX_VALUE - 1, 1 << 30, 65535}) {
        PassedDark x = course("course 9;dark 99;trip 40;");
        x.seed(seed);
        long s = seed;
        int trips = 0;
        int strength = 99;
        for (int i = 0; i < 30; i++) {
          boolean trip = drawn(s, 100) < 40;
          s = next(s);
          if (trip) {
            trips++;
            strength = Math.max(0, strength - drawn(s, 10));
            s = next(s);
          }
        }
        due("chance(30) by " + seed, x.chance(30), trips);
        due("has(5) by " + seed, x.has(5), strength);
      }
    });
  }

  // ---------------------------------------------------------------- promises 6 to 11

  private static void kept() {
    edge("II: KEPT is each HOUR in which it is RUN", () -> {
      PassedDark x = course("course 9;bearer a at 0 pace 4;wanes strength-1;");
      x.kindle(0);
      x.hours(2);
      due("has(9), out", x.has(9), 0);
      x.kindle(9);
      x.hours(3);
      due("has(9)", x.has(9), 3);
      x.hours(5);
      due("has(9), through", x.has(9), 3);
      due("kept(0,0)", x.kept(0, 0), 2);
      due("kept(2,0)", x.kept(2, 0), 4);
    });
    edge("II: KEPT are HOUR, who ran, the MILE to which it came, its strength then", () -> {
      PassedDark x = course("course 9;bearer a at 1 pace 4;bearer b at 3 pace 9;wanes strength-run-20*handed;");
      x.hours(1);
      due("kept(0,0)", x.kept(0, 0), 0);
      due("kept(0,1)", x.kept(0, 1), 0);
      due("kept(0,2)", x.kept(0, 2), 3);
      due("kept(0,3)", x.kept(0, 3), 28);
      x.hours(1);
      due("kept(1,0)", x.kept(1, 0), 1);
      due("kept(1,1)", x.kept(1, 1), 1);
      due("kept(1,2)", x.kept(1, 2), 9);
      due("kept(1,3)", x.kept(1, 3), 22);
    });
    edge("II: KEPT is one that goes OUT at the end of its HOUR", () -> {
      PassedDark x = course("course 9;bearer a at 1 pace 4;wanes 0;");
      x.hours(2);
      due("has(9)", x.has(9), 1);
      due("kept(0,3)", x.kept(0, 3), 0);
    });
    edge("II: KEPT are HOURS by the seed, too", () -> {
      PassedDark x = course("course 9;bearer a at 1 pace 4;");
      x.chance(3);
      due("has(9)", x.has(9), 2);
    });
    edge("II: the last 40 are told", () -> {
      PassedDark x = course("course 99;bearer a at 0 pace 1;");
      x.hours(40);
      due("has(9) of 40", x.has(9), 40);
      due("kept(0,0) of 40", x.kept(0, 0), 0);
      due("kept(39,0) of 40", x.kept(39, 0), 39);
      x.hours(1);
      due("has(9) of 41", x.has(9), 40);
      due("kept(0,0) of 41", x.kept(0, 0), 1);
      due("kept(39,0) of 41", x.kept(39, 0), 40);
      x.hours(58);
      due("has(9) of 99", x.has(9), 40);
      due("kept(0,2) of 99", x.kept(0, 2), 60);
      due("kept(39,2) of 99", x.kept(39, 2), 99);
    });
    edge("11: k-th from the oldest on, NONE when there is none such", () -> {
      PassedDark x = course("course 99;bearer a at 0 pace 1;");
      due("kept(0,0)", x.kept(0, 0), -1);
      x.hours(2);
      due("kept(1,0)", x.kept(1, 0), 1);
      due("kept(2,0)", x.kept(2, 0), -1);
      for (int k : FAR_OFF) {
        due("kept(" + k + ",0)", x.kept(k, 0), -1);
      }
      x.hours(50);
      due("kept(39,0)", x.kept(39, 0), 51);
      due("kept(40,0)", x.kept(40, 0), -1);
      due("kept(most,0)", x.kept(Integer.MAX_VALUE, 0), -1);
    });
    edge("11: NONE for others", () -> {
      PassedDark x = course("course 99;bearer a at 0 pace 1;");
      x.hours(2);
      due("kept(0,4)", x.kept(0, 4), -1);
      due("kept(1,-1)", x.kept(1, -1), -1);
      due("kept(0,most)", x.kept(0, Integer.MAX_VALUE), -1);
    });
  }

  private static void looks() {
    edge("6: the greatest numbers that there are", () -> {
      StringBuilder text = new StringBuilder("course 99;dark 99;wanes 99;");
      for (int i = 0; i < 8; i++) {
        char c = (char) ('a' + i);
        text.append("bearer b").append(c).append(" at ").append(i).append(" pace 9;");
        text.append("house h").append(c).append(" at 99 care 0;");
      }
      PassedDark x = course(text.toString());
      feed(x, new String(new char[48]));
      x.see();
      goOn(x, 99);
      for (int i = 0; i < 20; i++) {
        x.hours(1);
      }
      goOn(x, 880);
      // A mile by each of seven bearers, then nine miles an hour: 18 hours in all.
      int[] has = {99, 8, 8, 999, 99, 99, 7, 8, 1, 18, 16, 20};
      for (int what = 0; what < has.length; what++) {
        due("has(" + what + ")", x.has(what), has[what]);
      }
    });
    edge("6: NONE for others", () -> {
      PassedDark x = course("course 9;bearer a at 0 pace 1;");
      due("has(12)", x.has(12), -1);
      due("has(most)", x.has(Integer.MAX_VALUE), -1);
      for (int what : FAR_OFF) {
        due("has(" + what + ")", x.has(what), -1);
      }
    });
    edge("7: letters 1 .. 26, 0 behind the NAME", () -> {
      PassedDark x = course("course 9;bearer az at 0 pace 1;house zyxwvu at 0 care 1;");
      int[] az = {1, 26, 0, 0, 0, 0};
      for (int k = 0; k < 6; k++) {
        due("letter(0,0," + k + ")", x.letter(0, 0, k), az[k]);
        due("letter(1,0," + k + ")", x.letter(1, 0, k), 26 - k);
      }
    });
    edge("7: of a BEARER (kind 0), a HOUSE (1), each by its number", () -> {
      PassedDark x = course("course 9;bearer ab at 0 pace 1;house ef at 0 care 1;bearer cd at 0 pace 1;"
          + "house gh at 0 care 1;");
      for (int i = 0; i < 2; i++) {
        for (int k = 0; k < 2; k++) {
          due("letter(0," + i + "," + k + ")", x.letter(0, i, k), 1 + 2 * i + k);
          due("letter(1," + i + "," + k + ")", x.letter(1, i, k), 5 + 2 * i + k);
        }
      }
      StringBuilder text = new StringBuilder("course 9;");
      for (int i = 0; i < 8; i++) {
        char c = (char) ('a' + i);
        text.append("bearer zzzzz").append(c).append(" at 0 pace 1;house yyyyy").append(c).append(" at 0 care 1;");
      }
      PassedDark many = course(text.toString());
      due("letter(0,7,5)", many.letter(0, 7, 5), 8);
      due("letter(1,7,5)", many.letter(1, 7, 5), 8);
      due("letter(1,7,0)", many.letter(1, 7, 0), 25);
    });
    edge("7: NONE when there is none such", () -> {
      PassedDark x = course("course 9;bearer a at 0 pace 1;bearer b at 0 pace 1;house c at 0 care 1;");
      due("letter(0,1,5)", x.letter(0, 1, 5), 0);
      due("letter(0,1,6)", x.letter(0, 1, 6), -1);
      due("letter(0,1,-1)", x.letter(0, 1, -1), -1);
      due("letter(0,2,0)", x.letter(0, 2, 0), -1);
      due("letter(1,1,0)", x.letter(1, 1, 0), -1);
      due("letter(2,0,0)", x.letter(2, 0, 0), -1);
      for (int off : FAR_OFF) {
        due("letter(0," + off + ",0)", x.letter(0, off, 0), -1);
        due("letter(1," + off + ",0)", x.letter(1, off, 0), -1);
        due("letter(" + off + ",0,0)", x.letter(off, 0, 0), -1);
        due("letter(0,0," + off + ")", x.letter(0, 0, off), -1);
      }
      due("letter(0,most,0)", x.letter(0, Integer.MAX_VALUE, 0), -1);
    });
    edge("8: NONE when there is none such", () -> {
      PassedDark x = course("course 9;bearer a at 0 pace 1;bearer b at 0 pace 1;house c at 0 care 1;");
      due("bearer(1,1)", x.bearer(1, 1), 1);
      due("bearer(2,1)", x.bearer(2, 1), -1);
      due("bearer(8,1)", x.bearer(8, 1), -1);
      due("bearer(most,0)", x.bearer(Integer.MAX_VALUE, 0), -1);
      for (int off : FAR_OFF) {
        due("bearer(" + off + ",1)", x.bearer(off, 1), -1);
      }
      due("bearer(0,0) without any", course("course 9;").bearer(0, 0), -1);
    });
    edge("8: NONE for others", () -> {
      PassedDark x = course("course 9;bearer a at 0 pace 1;");
      due("bearer(0,3)", x.bearer(0, 3), 1);
      due("bearer(0,4)", x.bearer(0, 4), -1);
      for (int off : FAR_OFF) {
        due("bearer(0," + off + ")", x.bearer(0, off), -1);
      }
    });
    edge("8: whether the TEST holds for him now", () -> {
      PassedDark x = course("course 9;bearer a at 3 pace 1;bearer b at 5 pace 2;light mile+hour;"
          + "takes far=2 and light=5 and strength=50 and pace=2 and hour=0;");
      due("bearer(0,3), who has it", x.bearer(0, 3), 0);
      due("bearer(1,3)", x.bearer(1, 3), 1);
      x.aside(1, 1);
      due("bearer(1,3), aside", x.bearer(1, 3), 1);
      x.kindle(49);
      due("bearer(1,3) of 49", x.bearer(1, 3), 0);
      x.kindle(50);
      x.place(1, 1);
      due("bearer(1,3), far whichever way, another light", x.bearer(1, 3), 0);
      PassedDark back = course("course 9;bearer a at 3 pace 1;bearer b at 5 pace 2;takes far=2;");
      back.place(1, 1);
      due("bearer(1,3), far whichever way", back.bearer(1, 3), 1);
      due("bearer(0,3), far 0", back.bearer(0, 3), 0);
    });
    edge("9: NONE when there is none such", () -> {
      PassedDark x = course("course 9;bearer b at 0 pace 1;house a at 0 care 7;house c at 0 care 8;");
      due("house(1,1)", x.house(1, 1), 8);
      due("house(2,1)", x.house(2, 1), -1);
      due("house(8,1)", x.house(8, 1), -1);
      due("house(most,0)", x.house(Integer.MAX_VALUE, 0), -1);
      for (int off : FAR_OFF) {
        due("house(" + off + ",1)", x.house(off, 1), -1);
      }
      due("house(0,0) without any", course("course 9;").house(0, 0), -1);
    });
    edge("9: NONE for others", () -> {
      PassedDark x = course("course 9;house a at 0 care 7;");
      due("house(0,2)", x.house(0, 2), 0);
      due("house(0,3)", x.house(0, 3), -1);
      for (int off : FAR_OFF) {
        due("house(0," + off + ")", x.house(0, off), -1);
      }
    });
    edge("10: at a MILE that there is", () -> {
      PassedDark x = course("course 9;light mile+1;");
      due("light(0,0)", x.light(0, 0), 1);
      due("light(8,0)", x.light(8, 0), 9);
      due("light(9,0)", x.light(9, 0), 9);
      due("light(10,0)", x.light(10, 0), -1);
      due("light(most,0)", x.light(Integer.MAX_VALUE, 0), -1);
      for (int off : FAR_OFF) {
        due("light(" + off + ",0)", x.light(off, 0), -1);
      }
    });
    edge("10: n HOURS from now on, 0 .. 60", () -> {
      PassedDark x = course("course 9;light hour-55;");
      due("light(0,0)", x.light(0, 0), 0);
      due("light(0,59)", x.light(0, 59), 4);
      due("light(0,60)", x.light(0, 60), 5);
      due("light(0,61)", x.light(0, 61), -1);
      due("light(0,most)", x.light(0, Integer.MAX_VALUE), -1);
      for (int off : FAR_OFF) {
        due("light(0," + off + ")", x.light(0, off), -1);
      }
      x.hours(2);
      due("light(0,60) two hours on", x.light(0, 60), 7);
    });
    edge("10: NONE for HOURS beyond 999", () -> {
      PassedDark x = course("course 9;light hour-995;");
      goOn(x, 939);
      due("light(0,60) at hour 939", x.light(0, 60), 4);
      x.hours(1);
      due("light(0,60) at hour 940", x.light(0, 60), -1);
      due("light(0,59) at hour 940", x.light(0, 59), 4);
      goOn(x, 59);
      due("light(0,0) at hour 999", x.light(0, 0), 4);
      due("light(0,1) at hour 999", x.light(0, 1), -1);
    });
  }

  // ---------------------------------------------------------------- promises 22 to 24

  private static final String TWO = "course 10;bearer a at 0 pace 3;bearer b at 5 pace 4;"
      + "house h at 2 care 20;house k at 9 care 45;wanes strength-run;trip 30;";

  private static void place() {
    edge("22: another MILE, 0 and the last one too", () -> {
      PassedDark x = course(TWO);
      due("place(1,0)", x.place(1, 0), true);
      due("bearer(1,0)", x.bearer(1, 0), 0);
      due("place(1,10)", x.place(1, 10), true);
      due("bearer(1,0)", x.bearer(1, 0), 10);
      due("has(11)", x.has(11), 2);
      due("status(2)", x.status(2), 0);
    });
    edge("22: refused when he waits there", () -> {
      PassedDark x = course(TWO);
      refused(x, 2, "place(1,5)", () -> x.place(1, 5));
      x.place(1, 6);
      refused(x, 2, "place(1,6)", () -> x.place(1, 6));
      x.aside(1, 1);
      refused(x, 2, "place(1,6) aside", () -> x.place(1, 6));
    });
    edge("22: refused when he has the dark", () -> {
      PassedDark x = course(TWO);
      refused(x, 2, "place(0,5)", () -> x.place(0, 5));
      x.hours(2);
      refused(x, 2, "place(1,9) of him who has taken it", () -> x.place(1, 9));
      due("place(0,9) of him who has handed it over", x.place(0, 9), true);
    });
    edge("22: refused when there is no such BEARER", () -> {
      PassedDark x = course(TWO);
      refused(x, 2, "place(2,5)", () -> x.place(2, 5));
      refused(x, 2, "place(-1,5)", () -> x.place(-1, 5));
      refused(x, 2, "place(most,5)", () -> x.place(Integer.MAX_VALUE, 5));
      PassedDark nobody = course("course 9;");
      refused(nobody, 2, "place(-1,5) where nobody has it", () -> nobody.place(-1, 5));
      PassedDark none = new PassedDark();
      refused(none, 2, "place(0,0) without a course", () -> none.place(0, 0));
    });
    edge("22: refused when there is no such MILE", () -> {
      PassedDark x = course(TWO);
      refused(x, 2, "place(1,11)", () -> x.place(1, 11));
      refused(x, 2, "place(1,-1)", () -> x.place(1, -1));
      refused(x, 2, "place(1,least)", () -> x.place(1, Integer.MIN_VALUE));
      refused(x, 2, "place(1,261)", () -> x.place(1, 261));
    });
  }

  private static void aside() {
    edge("23: set ASIDE (1), or waits again (0)", () -> {
      PassedDark x = course(TWO);
      due("aside(1,1)", x.aside(1, 1), true);
      due("bearer(1,2)", x.bearer(1, 2), 1);
      due("aside(1,0)", x.aside(1, 0), true);
      due("bearer(1,2)", x.bearer(1, 2), 0);
      due("has(11)", x.has(11), 2);
    });
    edge("23: refused when he is so already", () -> {
      PassedDark x = course(TWO);
      refused(x, 2, "aside(1,0)", () -> x.aside(1, 0));
      x.aside(1, 1);
      refused(x, 2, "aside(1,1)", () -> x.aside(1, 1));
    });
    edge("23: refused when he has the dark", () -> {
      PassedDark x = course(TWO);
      refused(x, 2, "aside(0,1)", () -> x.aside(0, 1));
      x.hours(2);
      refused(x, 2, "aside(1,1) of him who has taken it", () -> x.aside(1, 1));
      due("aside(0,1) of him who has handed it over", x.aside(0, 1), true);
    });
    edge("23: refused when there is none such", () -> {
      PassedDark x = course(TWO);
      refused(x, 2, "aside(2,1)", () -> x.aside(2, 1));
      refused(x, 2, "aside(-1,1)", () -> x.aside(-1, 1));
      refused(x, 2, "aside(33,1)", () -> x.aside(33, 1));
      PassedDark none = new PassedDark();
      refused(none, 2, "aside(0,1) without a course", () -> none.aside(0, 1));
    });
    edge("23: refused for others", () -> {
      PassedDark x = course(TWO);
      refused(x, 2, "aside(1,2)", () -> x.aside(1, 2));
      refused(x, 2, "aside(1,-1)", () -> x.aside(1, -1));
      x.aside(1, 1);
      refused(x, 2, "aside(1,2) of one aside", () -> x.aside(1, 2));
      refused(x, 2, "aside(1,-1) of one aside", () -> x.aside(1, -1));
      refused(x, 2, "aside(1,most) of one aside", () -> x.aside(1, Integer.MAX_VALUE));
    });
  }

  private static void kindle() {
    edge("24: of another strength, 0 .. 99", () -> {
      PassedDark x = course(TWO);
      due("kindle(0)", x.kindle(0), true);
      due("has(5)", x.has(5), 0);
      due("kindle(99)", x.kindle(99), true);
      due("has(5)", x.has(5), 99);
      due("has(11)", x.has(11), 2);
      due("kindle without bearers", course("course 9;").kindle(9), true);
    });
    edge("24: refused when it is that", () -> {
      PassedDark x = course(TWO);
      refused(x, 2, "kindle(50)", () -> x.kindle(50));
      x.kindle(0);
      refused(x, 2, "kindle(0)", () -> x.kindle(0));
    });
    edge("24: refused for others", () -> {
      PassedDark x = course(TWO);
      refused(x, 2, "kindle(100)", () -> x.kindle(100));
      refused(x, 2, "kindle(-1)", () -> x.kindle(-1));
      refused(x, 2, "kindle(306)", () -> x.kindle(306));
    });
    edge("24: refused without a course", () -> {
      PassedDark x = new PassedDark();
      refused(x, 2, "kindle(5)", () -> x.kindle(5));
      refused(x, 2, "kindle(0)", () -> x.kindle(0));
    });
  }

  // ---------------------------------------------------------------- promises 25 to 28

  private static void hours() {
    edge("25: n HOURS, 1 .. 100", () -> {
      PassedDark x = course(TWO);
      due("hours(1)", x.hours(1), 3);
      due("hours(100)", x.hours(100), 7);
      due("has(3)", x.has(3), 101);
      due("has(11)", x.has(11), 2);
    });
    edge("25: refused for less than 1, more than 100", () -> {
      PassedDark x = course(TWO);
      refused(x, 3, "hours(0)", () -> x.hours(0) != -1);
      refused(x, 3, "hours(-1)", () -> x.hours(-1) != -1);
      refused(x, 3, "hours(101)", () -> x.hours(101) != -1);
      refused(x, 3, "hours(most)", () -> x.hours(Integer.MAX_VALUE) != -1);
      refused(x, 3, "hours(least)", () -> x.hours(Integer.MIN_VALUE) != -1);
    });
    edge("25: refused beyond HOUR 999", () -> {
      PassedDark x = course(TWO);
      goOn(x, 950);
      refused(x, 3, "hours(50) at hour 950", () -> x.hours(50) != -1);
      due("hours(49) at hour 950", x.hours(49), 0);
      due("has(3)", x.has(3), 999);
      refused(x, 3, "hours(1) at hour 999", () -> x.hours(1) != -1);
    });
    edge("25: refused without a course", () -> {
      PassedDark x = new PassedDark();
      refused(x, 3, "hours(1)", () -> x.hours(1) != -1);
    });
    edge("25: how many MILES it was RUN, 0 too", () -> {
      due("hours(3) without bearers", course("course 9;").hours(3), 0);
      due("hours(99)", course("course 99;bearer a at 0 pace 1;").hours(99), 99);
      PassedDark x = course("course 9;");
      x.hours(3);
      due("has(11): an act in any case", x.has(11), 1);
    });
  }

  private static void chance() {
    edge("26: n HOURS by the seed, 1 .. 100", () -> {
      PassedDark x = course("course 9;trip 100;");
      due("chance(1)", x.chance(1), 1);
      due("chance(100)", x.chance(100), 100);
      due("has(3)", x.has(3), 101);
    });
    edge("26: one ACT", () -> {
      PassedDark x = course(TWO);
      x.chance(9);
      due("has(11)", x.has(11), 1);
      x.undo();
      due("has(3)", x.has(3), 0);
      due("has(5)", x.has(5), 50);
    });
    edge("26: refused for less than 1, more than 100", () -> {
      PassedDark x = course(TWO);
      refused(x, 3, "chance(0)", () -> x.chance(0) != -1);
      refused(x, 3, "chance(-1)", () -> x.chance(-1) != -1);
      refused(x, 3, "chance(101)", () -> x.chance(101) != -1);
      refused(x, 3, "chance(most)", () -> x.chance(Integer.MAX_VALUE) != -1);
    });
    edge("26: refused beyond HOUR 999", () -> {
      PassedDark x = course(TWO);
      goOn(x, 950);
      refused(x, 3, "chance(50) at hour 950", () -> x.chance(50) != -1);
      due("chance(49) at hour 950", x.chance(49) != -1, true);
      due("has(3)", x.has(3), 999);
      refused(x, 3, "chance(1) at hour 999", () -> x.chance(1) != -1);
    });
    edge("26: refused without a course", () -> {
      PassedDark x = new PassedDark();
      refused(x, 3, "chance(1)", () -> x.chance(1) != -1);
    });
    edge("26: what is refused draws nothing", () -> {
      PassedDark x = course("course 9;trip 50;");
      PassedDark y = course("course 9;trip 50;");
      x.chance(0);
      x.chance(101);
      due("chance(100)", x.chance(100), y.chance(100));
      due("has(5)", x.has(5), y.has(5));
    });
  }

  private static void undo() {
    edge("27: refused when none can be undone", () -> {
      PassedDark x = course(TWO);
      refused(x, 4, "undo() at first", x::undo);
      x.hours(1);
      x.undo();
      refused(x, 4, "undo() behind the only one", x::undo);
      PassedDark none = new PassedDark();
      refused(none, 4, "undo() without a course", none::undo);
    });
    edge("27: the latest ACT of each sort is undone", () -> {
      PassedDark x = course(TWO);
      String[] ahead = new String[6];
      ahead[0] = all(x);
      x.place(1, 4);
      ahead[1] = all(x);
      x.aside(1, 1);
      ahead[2] = all(x);
      x.hours(1);
      ahead[3] = all(x);
      x.kindle(77);
      ahead[4] = all(x);
      x.chance(9);
      for (int i = 4; i >= 0; i--) {
        due("undo() to " + i, x.undo(), true);
        due("all as behind " + i + " acts", all(x).equals(ahead[i]), true);
      }
    });
    edge("27: who has it, and where all are, is as it was", () -> {
      PassedDark x = course(TWO);
      x.hours(2);
      due("has(6)", x.has(6), 1);
      x.hours(1);
      x.undo();
      due("has(6)", x.has(6), 1);
      due("bearer(0,0)", x.bearer(0, 0), 5);
      x.undo();
      due("has(6)", x.has(6), 0);
      due("has(4)", x.has(4), 0);
      StringBuilder text = new StringBuilder("course 99;");
      for (int i = 0; i < 8; i++) {
        text.append("bearer b").append((char) ('a' + i)).append(" at ").append(90 + i).append(" pace 1;");
      }
      PassedDark many = course(text.toString());
      many.hours(1);
      many.place(7, 99);
      many.kindle(9);
      many.undo();
      due("bearer(7,0)", many.bearer(7, 0), 99);
      due("has(9)", many.has(9), 1);
      many.undo();
      due("bearer(7,0)", many.bearer(7, 0), 97);
      for (int i = 1; i < 7; i++) {
        due("bearer(" + i + ",0)", many.bearer(i, 0), 90 + i);
      }
    });
    edge("II: the last 20 ACTS can be undone", () -> {
      PassedDark x = course("course 99;bearer a at 0 pace 1;");
      for (int i = 1; i <= 22; i++) {
        x.hours(1);
        due("has(11)", x.has(11), Math.min(i, 20));
      }
      for (int i = 1; i <= 20; i++) {
        due("undo()", x.undo(), true);
        due("has(3)", x.has(3), 22 - i);
        due("has(11)", x.has(11), 20 - i);
      }
      due("undo() of the 21st", x.undo(), false);
      due("has(3)", x.has(3), 2);
    });
    edge("II: 20 ACTS once more, behind some undone", () -> {
      PassedDark x = course("course 99;bearer a at 0 pace 1;");
      for (int i = 0; i < 15; i++) {
        x.hours(1);
      }
      for (int i = 0; i < 7; i++) {
        x.undo();
      }
      for (int i = 0; i < 15; i++) {
        x.hours(2);
      }
      due("has(11)", x.has(11), 20);
      for (int i = 0; i < 20; i++) {
        x.undo();
      }
      due("has(3)", x.has(3), 3);
      due("undo()", x.undo(), false);
    });
    edge("27: what is refused is no ACT", () -> {
      PassedDark x = course(TWO);
      x.place(1, 5);
      x.aside(1, 0);
      x.kindle(50);
      x.hours(0);
      x.chance(101);
      x.undo();
      x.seed(-1);
      due("has(11)", x.has(11), 0);
    });
    edge("27: the seed stays", () -> {
      PassedDark x = course("course 9;trip 50;");
      PassedDark y = course("course 9;trip 50;");
      x.chance(10);
      x.undo();
      y.chance(10);
      due("chance(50)", x.chance(50), y.chance(50));
    });
    edge("27: KEPT is as it was, beyond 40 too", () -> {
      PassedDark x = course("course 99;bearer a at 0 pace 1;");
      x.hours(38);
      x.hours(10);
      due("kept(0,0)", x.kept(0, 0), 8);
      x.undo();
      due("has(9)", x.has(9), 38);
      due("kept(0,0)", x.kept(0, 0), 0);
    });
  }

  private static void seed() {
    edge("28: the seed, 0 and the greatest too", () -> {
      PassedDark x = new PassedDark();
      due("seed(0)", x.seed(0), true);
      due("seed(most)", x.seed(Integer.MAX_VALUE), true);
      due("status(5)", x.status(5), 0);
    });
    edge("28: refused when it is below 0", () -> {
      PassedDark x = course(TWO);
      refused(x, 5, "seed(-1)", () -> x.seed(-1));
      refused(x, 5, "seed(least)", () -> x.seed(Integer.MIN_VALUE));
      PassedDark y = course(TWO);
      due("chance(60), the seed is as it was", x.chance(60), y.chance(60));
    });
    edge("28: it is 1 at first", () -> {
      PassedDark x = course("course 9;trip 50;");
      PassedDark y = course("course 9;trip 50;");
      y.seed(1);
      due("chance(60)", x.chance(60), y.chance(60));
      due("has(5)", x.has(5), y.has(5));
      // 17242618 mod 100, 5896899 mod 10
      PassedDark z = course("course 9;trip 19;");
      due("chance(1)", z.chance(1), 1);
      due("has(5)", z.has(5), 41);
    });
    edge("28: a seed is no ACT", () -> {
      PassedDark x = course(TWO);
      x.seed(9);
      due("has(11)", x.has(11), 0);
    });
  }
}
