/** Promises 2 to 5 and Terms I: a test for each sentence that names a boundary case. */
public final class CourseEdgesTest {
  private static int wrong = 0;
  private static String sentence = "";

  private static void edge(String words, Runnable test) {
    sentence = words;
    test.run();
  }

  private static void due(String call, long got, long want) {
    if (got != want) {
      wrong++;
      System.out.println(sentence + " - " + call + " answered " + got + ", due is " + want);
    }
  }

  private static void due(String call, boolean got, boolean want) {
    due(call, got ? 1 : 0, want ? 1 : 0);
  }

  private static void feed(PassedDark x, String text) {
    for (int at = 0; at < text.length(); at += 20) {
      int[] five = new int[5];
      for (int i = 0; i < 20; i++) {
        five[i / 4] = five[i / 4] << 8 | (at + i < text.length() ? text.charAt(at + i) & 255 : 32);
      }
      x.feed(five[0], five[1], five[2], five[3], five[4]);
    }
    x.end(text.length());
  }

  private static int read(PassedDark x, String text) {
    feed(x, text);
    return x.course();
  }

  private static PassedDark course(int statements, String text) {
    PassedDark x = new PassedDark();
    due(text, read(x, text), statements);
    return x;
  }

  /** A text with a @ ahead of the byte that has the fault. */
  private static void fault(int code, String marked) {
    PassedDark x = new PassedDark();
    String text = marked.replace("@", "");
    due(text, read(x, text), -1);
    due("fault(0) of " + text, x.fault(0), code);
    due("fault(1) of " + text, x.fault(1), marked.indexOf('@'));
  }

  /** Whether a TEST holds that needs nothing of what stands. */
  private static void holds(String test) {
    due(test, course(3, "course 9;bearer a at 0 pace 1;takes " + test + ";").bearer(0, 3), 1);
  }

  private static void holdsNot(String test) {
    due(test, course(3, "course 9;bearer a at 0 pace 1;takes " + test + ";").bearer(0, 3), 0);
  }

  private static String times(int times, String text) {
    return text.repeat(times);
  }

  /** So many bearers and houses, each with a name of its own. */
  private static String crowd(int bearers, int houses) {
    StringBuilder text = new StringBuilder();
    for (int i = 0; i < bearers; i++) {
      text.append("bearer b").append((char) ('a' + i)).append(" at 9 pace 9;");
    }
    for (int i = 0; i < houses; i++) {
      text.append("house h").append((char) ('a' + i)).append(" at 9 care 9;");
    }
    return text.toString();
  }

  public static void main(String[] args) {
    tape();
    courses();
    statements();
    names();
    formulas();
    limits();
    faults();
    open();
    if (wrong != 0) {
      System.exit(1);
    }
  }

  // ---------------------------------------------------------------- promises 2 to 5

  private static final int BLANKS = 0x20202020;

  private static PassedDark filled(int bytes) {
    PassedDark x = new PassedDark();
    for (int at = 0; at < bytes; at += 20) {
      x.feed(BLANKS, BLANKS, BLANKS, BLANKS, BLANKS);
    }
    x.end(bytes);
    return x;
  }

  private static void tape() {
    edge("2: twenty bytes, of each number the highest first", () -> {
      PassedDark x = new PassedDark();
      // "cour", "se 9", "9;  "
      due("feed", x.feed(0x636f7572, 0x73652039, 0x393b2020, BLANKS, BLANKS), 20);
      due("course()", x.course(), 1);
      due("has(0)", x.has(0), 99);
    });
    edge("2: twenty bytes, those of numbers below 0 too", () -> {
      PassedDark x = new PassedDark();
      x.feed(BLANKS, BLANKS, BLANKS, BLANKS, 0x202020ff);
      x.course();
      due("fault(1) at a last byte of 255", x.fault(1), 19);
      x.feed(BLANKS, 0x80202020, BLANKS, BLANKS, BLANKS);
      x.course();
      due("fault(1) at a byte of 128", x.fault(1), 4);
    });
    edge("2: they come behind those on the tape", () -> {
      PassedDark x = filled(7);
      due("feed", x.feed(0x636f7572, 0x73652039, 0x393b2020, BLANKS, BLANKS), 27);
      due("course()", x.course(), 1);
    });
    edge("2: 1600 bytes are not too many", () -> {
      due("feed to 1600", filled(1580).feed(1, 2, 3, 4, 5), 1600);
      PassedDark x = new PassedDark();
      feed(x, "course 9" + times(1591, " ") + ";");
      due("course() by the byte 1599", x.course(), 1);
    });
    edge("2: refused, if there would be more than 1600", () -> {
      PassedDark full = filled(1600);
      due("feed to 1620", full.feed(1, 2, 3, 4, 5), -1);
      due("status(0)", full.status(0), 1);
      PassedDark x = filled(1581);
      due("feed to 1601", x.feed(1, 2, 3, 4, 5), -1);
      due("status(0)", x.status(0), 1);
    });
    edge("2: what is refused leaves the tape as it is", () -> {
      PassedDark x = filled(1590);
      x.feed(1, 2, 3, 4, 5);
      due("end(1591)", x.end(1591), false);
      due("end(1590)", x.end(1590), true);
      x.course();
      due("fault(1)", x.fault(1), 1590);
    });
    edge("3: the tape has its first n bytes alone", () -> {
      PassedDark x = filled(20);
      due("end(20), as many as there are", x.end(20), true);
      due("end(19)", x.end(19), true);
      due("feed", x.feed(BLANKS, BLANKS, BLANKS, BLANKS, BLANKS), 39);
      due("end(0)", x.end(0), true);
      due("end(0) of an empty tape", x.end(0), true);
      due("feed", x.feed(BLANKS, BLANKS, BLANKS, BLANKS, BLANKS), 20);
      due("status(0)", x.status(0), 0);
    });
    edge("3: false, refused, if it has not so many", () -> {
      PassedDark x = filled(20);
      due("end(21)", x.end(21), false);
      due("end(most)", x.end(Integer.MAX_VALUE), false);
      due("status(0)", x.status(0), 2);
      due("feed", x.feed(BLANKS, BLANKS, BLANKS, BLANKS, BLANKS), 40);
      due("end(1) of an empty tape", new PassedDark().end(1), false);
    });
    edge("3: false, refused, if n is below 0", () -> {
      PassedDark x = filled(20);
      due("end(-1)", x.end(-1), false);
      due("end(least)", x.end(Integer.MIN_VALUE), false);
      due("status(0)", x.status(0), 2);
      due("feed", x.feed(BLANKS, BLANKS, BLANKS, BLANKS, BLANKS), 40);
    });
  }

  private static final String LEGS = "course 20;bearer abe at 4 pace 3;bearer b at 9 pace 1;"
      + "house hill at 7 care 30;light mile;wanes strength-1;dark 60;trip 50;";

  private static String all(PassedDark x) {
    StringBuilder told = new StringBuilder();
    for (int what = 0; what <= 11; what++) {
      told.append(x.has(what)).append(' ');
    }
    for (int what = 0; what <= 3; what++) {
      told.append(x.bearer(0, what)).append(' ').append(x.bearer(1, what)).append(' ')
          .append(x.house(0, what)).append(' ').append(x.kept(0, what)).append(' ')
          .append(x.later(9, what)).append(' ');
    }
    for (int k = 0; k < 6; k++) {
      told.append(x.letter(0, 0, k)).append(' ').append(x.letter(1, 0, k)).append(' ');
    }
    return told.append(x.light(3, 3)).append(' ').append(x.strengths(0)).toString();
  }

  private static PassedDark stirred() {
    PassedDark x = course(8, LEGS);
    x.hours(1);
    x.aside(1, 1);
    x.chance(3);
    // The house is passed by then: no strength is left.
    feed(x, new String(new char[] {0, 0, 0}));
    due("see()", x.see(), 1);
    return x;
  }

  private static void courses() {
    edge("4: the tape goes", () -> {
      PassedDark x = course(1, "course 9;");
      due("end(1)", x.end(1), false);
      due("course() of what is left", x.course(), -1);
      due("fault(1)", x.fault(1), 0);
      read(x, "course 9;what");
      due("end(1) behind a fault", x.end(1), false);
      due("feed", x.feed(BLANKS, BLANKS, BLANKS, BLANKS, BLANKS), 20);
    });
    edge("4: how many STATEMENTS", () -> {
      course(1, "course 9;");
      course(2, "course 9;dark 1;");
      course(60, "course 9;" + times(59, "dark 1;"));
    });
    edge("4: NONE, refused (1), with a FAULT", () -> {
      PassedDark x = new PassedDark();
      due("course() of nothing", x.course(), -1);
      due("status(1)", x.status(1), 1);
      due("course() without an end", read(x, "course 9"), -1);
      due("status(1)", x.status(1), 2);
      due("a good one", read(x, "course 9;"), 1);
      due("status(1)", x.status(1), 2);
    });
    edge("4: all stays with a FAULT", () -> {
      for (String bad : new String[] {"", "course 9", "course 9;dark 5;light 1;wanes 7;light 2;",
          "course 9;bearer z at 0 pace 9;bearer y at 1 pace 8;house x at 1 care 1;takes 1=2;;"}) {
        PassedDark x = stirred();
        String ahead = all(x);
        due(bad, read(x, bad), -1);
        due("all is as ahead of " + bad, all(x).equals(ahead), true);
      }
    });
    edge("4: one without a STATEMENT has FAULT 1 at its length", () -> {
      fault(1, "@");
      fault(1, " @");
      fault(1, "\n   \n@");
      fault(1, times(1600, " ") + "@");
    });
    edge("4: without a FAULT all is as at first", () -> {
      PassedDark x = stirred();
      due("course()", read(x, LEGS), 8);
      due("all is as at first", all(x).equals(all(course(8, LEGS))), true);
    });
    edge("4: nothing is KEPT", () -> {
      PassedDark x = stirred();
      due("has(9) ahead", x.has(9) > 0, true);
      read(x, "course 9;");
      due("has(9)", x.has(9), 0);
      due("kept(0,0)", x.kept(0, 0), -1);
    });
    edge("4: nothing is SEEN", () -> {
      PassedDark x = stirred();
      due("strengths(-1) ahead", x.strengths(-1), 0);
      read(x, LEGS);
      due("has(10)", x.has(10), 0);
      due("strengths(-1)", x.strengths(-1), 100);
    });
    edge("4: nothing can be undone", () -> {
      PassedDark x = stirred();
      read(x, LEGS);
      due("has(11)", x.has(11), 0);
      due("undo()", x.undo(), false);
    });
    edge("4: the seed stays", () -> {
      PassedDark x = stirred();
      PassedDark y = stirred();
      read(x, LEGS);
      int trips = y.chance(60);
      due("chance(60)", x.chance(60), trips);
      PassedDark z = new PassedDark();
      z.seed(8);
      read(z, LEGS);
      PassedDark w = course(8, LEGS);
      w.seed(8);
      due("chance(60) by a seed ahead of the course", z.chance(60), w.chance(60));
      due("has(5)", z.has(5), w.has(5));
    });
    edge("5: of the latest course() or ask()", () -> {
      PassedDark x = course(1, "course 9;");
      read(x, "course 4;");
      due("fault(0) of course()", x.fault(0), 2);
      feed(x, "total [");
      x.ask();
      due("fault(0) of ask()", x.fault(0), 1);
      due("fault(1) of ask()", x.fault(1), 6);
      read(x, "course 9;light 1;light 2;");
      due("fault(0) of course()", x.fault(0), 5);
      due("fault(1) of course()", x.fault(1), 17);
      feed(x, "total 5");
      x.ask();
      due("fault(0) of a good question", x.fault(0), 0);
    });
    edge("5: 0 without one", () -> {
      PassedDark x = new PassedDark();
      x.course();
      due("fault(0)", x.fault(0), 1);
      read(x, "course 9;");
      due("fault(0) of a good course", x.fault(0), 0);
    });
    edge("5: 0 ahead of any", () -> due("fault(0)", new PassedDark().fault(0), 0));
    edge("5: its place, NONE without", () -> {
      due("fault(1) ahead of any", new PassedDark().fault(1), -1);
      PassedDark x = new PassedDark();
      x.course();
      due("fault(1) at 0", x.fault(1), 0);
      read(x, "course 9;");
      due("fault(1) of a good course", x.fault(1), -1);
    });
    edge("5: NONE for another what", () -> {
      PassedDark x = new PassedDark();
      x.course();
      for (int what : new int[] {2, 3, -1, Integer.MAX_VALUE, Integer.MIN_VALUE}) {
        due("fault(" + what + ")", x.fault(what), -1);
      }
    });
  }

  // ---------------------------------------------------------------- Terms I

  private static void statements() {
    edge("I: 60 STATEMENTS at most", () -> {
      due("has(5) by the 60th", course(60, "course 9;" + times(58, "dark 1;") + "dark 2; ").has(5), 2);
      fault(5, "course 9;" + times(59, "dark 1;") + "@dark 2;");
    });
    edge("I: fault 5, a 61st STATEMENT, whatever stands there, at its first byte", () -> {
      for (String any : new String[] {"dark 0;", "light 1;", "what", "course", "5", ";", "[", "\t",
          "" + (char) 0, "" + (char) 255}) {
        fault(5, "course 9;" + times(59, "dark 1;") + " \n@" + any);
      }
    });
    edge("I: course, 5 .. 99 MILES", () -> {
      due("has(0)", course(1, "course 5;").has(0), 5);
      due("has(0)", course(1, "course 99;").has(0), 99);
      fault(2, "course @4;");
      fault(2, "course @100;");
      fault(2, "course @0;");
      fault(2, "course @9999;");
    });
    edge("I: course is the first STATEMENT", () -> {
      fault(1, "@dark 5;course 9;");
      fault(1, "@;course 9;");
    });
    edge("I: and course is it alone", () -> {
      fault(1, "course 9;@course 9;");
      fault(1, "course 9;dark 3;@course");
    });
    edge("I: a BEARER at a MILE 0 .. that number", () -> {
      due("at 0", course(2, "course 7;bearer a at 0 pace 1;").bearer(0, 0), 0);
      due("at 7", course(2, "course 7;bearer a at 7 pace 1;").bearer(0, 0), 7);
      fault(2, "course 7;bearer a at @8 pace 1;");
      fault(2, "course 7;bearer a at @9999");
    });
    edge("I: pace 1 .. 9", () -> {
      due("pace 1", course(2, "course 7;bearer a at 0 pace 1;").bearer(0, 1), 1);
      due("pace 9", course(2, "course 7;bearer a at 0 pace 9;").bearer(0, 1), 9);
      fault(2, "course 7;bearer a at 0 pace @0;");
      fault(2, "course 7;bearer a at 0 pace @10;");
    });
    edge("I: 8 BEARERS", () -> {
      due("has(1)", course(9, "course 9;" + crowd(8, 0)).has(1), 8);
      fault(5, "course 9;" + crowd(8, 0) + "@bearer z at 0 pace 1;");
      fault(5, "course 9;" + crowd(8, 1) + "dark 3; @bearer");
    });
    edge("I: a HOUSE at a MILE likewise", () -> {
      due("at 0", course(2, "course 7;house a at 0 care 1;").house(0, 0), 0);
      due("at 7", course(2, "course 7;house a at 7 care 1;").house(0, 0), 7);
      fault(2, "course 7;house a at @8 care 1;");
    });
    edge("I: care 0 .. 99", () -> {
      due("care 0", course(2, "course 7;house a at 0 care 0;").house(0, 1), 0);
      due("care 99", course(2, "course 7;house a at 0 care 99;").house(0, 1), 99);
      fault(2, "course 7;house a at 0 care @100;");
    });
    edge("I: 8 HOUSES", () -> {
      due("has(2)", course(9, "course 9;" + crowd(0, 8)).has(2), 8);
      due("has(2) of 8 and 8", course(17, "course 9;" + crowd(8, 8)).has(2), 8);
      fault(5, "course 9;" + crowd(0, 8) + "@house z at 0 care 1;");
      fault(5, "course 9;" + crowd(1, 8) + "dark 3; @house");
    });
    edge("I: dark 1 .. 99", () -> {
      due("dark 1", course(2, "course 7;dark 1;").has(5), 1);
      due("dark 99", course(2, "course 7;dark 99;").has(5), 99);
      fault(2, "course 7;dark @0;");
      fault(2, "course 7;dark @100;");
    });
    edge("I: the last dark counts", () ->
        due("has(5)", course(4, "course 7;dark 9;dark 99;dark 8;").has(5), 8));
    edge("I: dark is 50 without", () -> {
      due("has(5)", course(1, "course 7;").has(5), 50);
      PassedDark x = course(2, "course 7;dark 9;");
      read(x, "course 7;");
      due("has(5) behind another course", x.has(5), 50);
      read(x, "course 7;");
      due("has(5) behind one more", x.has(5), 50);
    });
    edge("I: light, wanes, takes: one each", () -> {
      course(4, "course 7;light 1;wanes 1;takes all;");
      fault(5, "course 7;light 1;@light 1;");
      fault(5, "course 7;wanes 1;light 1;@wanes");
      fault(5, "course 7;takes all; dark 1;\n@takes 5");
      PassedDark x = course(4, "course 7;light 1;wanes 1;takes all;");
      due("one each in another course", read(x, "course 7;light 1;wanes 1;takes all;"), 4);
    });
    edge("I: trip 0 .. 100", () -> {
      due("trip 0", course(2, "course 7;trip 0;").chance(100), 0);
      due("trip 100", course(2, "course 7;trip 100;").chance(100), 100);
      fault(2, "course 7;trip @101;");
    });
    edge("I: the last trip counts", () -> {
      due("chance(99)", course(3, "course 7;trip 0;trip 100;").chance(99), 99);
      due("chance(99)", course(3, "course 7;trip 100;trip 0;").chance(99), 0);
    });
    edge("I: trip is 0 without", () -> {
      due("chance(100)", course(1, "course 7;").chance(100), 0);
      PassedDark x = course(2, "course 7;trip 100;");
      read(x, "course 7;");
      due("chance(100) behind another course", x.chance(100), 0);
      read(x, "course 7;");
      due("chance(100) behind one more", x.chance(100), 0);
    });
  }

  private static void names() {
    edge("I: names of 1 to 6 letters", () -> {
      due("one letter", course(2, "course 7;bearer z at 0 pace 1;").letter(0, 0, 0), 26);
      due("six letters", course(2, "course 7;house abcdef at 0 care 1;").letter(1, 0, 5), 6);
      fault(1, "course 7;bearer @;");
      fault(1, "course 7;house @;");
    });
    edge("I: fault 1, a 7th letter at itself", () -> {
      fault(1, "course 7;bearer abcdef@g at 0 pace 1;");
      fault(1, "course 7;house abcdef@ghijkl at 0 care 1;");
      fault(1, "course 7;house handed@s at 0 care 1;");
      fault(1, "course 7;house streng@thy at 0 care 1;");
    });
    edge("I: no OWN WORD is a name, at its first byte", () -> {
      String own = "course bearer at pace house care dark light wanes takes trip strength hour mile"
          + " handed run far number passed lit from or and not all min max";
      for (String word : own.split(" ")) {
        fault(1, "course 7;bearer @" + word + " at 0 pace 1;");
        fault(1, "course 7;house @" + word + " at 0 care 1;");
      }
    });
    edge("I: other words are names", () -> {
      for (String word : new String[] {"first", "last", "often", "total", "most", "least", "a",
          "ats", "mi", "minx", "alls", "hous"}) {
        course(2, "course 7;bearer " + word + " at 0 pace 1;");
        course(2, "course 7;house " + word + " at 0 care 1;");
      }
    });
    edge("I: unlike names, of both sorts", () -> {
      fault(3, "course 7;bearer a at 0 pace 1;bearer @a at 1 pace 1;");
      fault(3, "course 7;house a at 0 care 1;house @a at 1 care 1;");
      fault(3, "course 7;bearer a at 0 pace 1;house @a at 1 care 1;");
      fault(3, "course 7;house a at 0 care 1;bearer @a at 1 pace 1;");
      fault(3, "course 9;" + crowd(8, 7) + "house @bh at 0 care 1;");
      fault(3, "course 9;" + crowd(7, 8) + "bearer @hh at 0 pace 1;");
    });
    edge("I: names that are a part of others are unlike them", () -> {
      course(4, "course 7;house ab at 0 care 1;house a at 0 care 1;bearer abc at 0 pace 1;");
      course(3, "course 7;bearer abcdef at 0 pace 1;bearer abcdeg at 0 pace 1;");
      course(3, "course 7;bearer bbbbbb at 0 pace 1;bearer abbbbb at 0 pace 1;");
    });
    edge("I: names of an earlier course are no hindrance", () -> {
      PassedDark x = course(3, "course 7;bearer a at 0 pace 1;house b at 0 care 1;");
      for (int i = 0; i < 3; i++) {
        due("course()", read(x, "course 7;house a at 0 care 1;bearer b at 0 pace 1;"), 3);
      }
    });
    edge("I: blanks are 10 and 32, where one likes", () -> {
      course(2, "\n \ncourse\n9 ;\n dark\n\n  1\n;\n");
      course(5, "course 9;light(hour+1)*min(2,3);wanes(1);takes[1<2]and not(1)=2;dark 1;");
    });
    edge("I: no others are blanks", () -> {
      for (int sign : new int[] {0, 9, 11, 12, 13, 31, 33, 127, 128, 160, 255}) {
        fault(1, "course 9@" + (char) sign + ";");
        fault(1, "@" + (char) sign + "course 9;");
      }
    });
    edge("I: words and numbers side by side need a blank", () -> {
      fault(1, "course@9;");
      fault(1, "course 9;bearer a at@0 pace 1;");
      fault(1, "course 9;bearer a at 0@pace 1;");
      fault(1, "course 9;bearer a@0;");
      fault(1, "course 9;takes 1=1@and 1=1;");
      fault(1, "course 9;takes not@1=1;");
      fault(1, "@courses 9;");
    });
  }

  private static void formulas() {
    edge("I: { or BOTH } holds, if one holds", () -> {
      holds("all or all");
      holds("all or not all");
      holds("not all or all");
      holdsNot("not all or not all");
      holds("not all or not all or all");
    });
    edge("I: { and FACT } holds, if all hold", () -> {
      holds("all and all");
      holdsNot("all and not all");
      holdsNot("not all and all");
      holdsNot("not all and not all");
      holdsNot("all and all and not all");
    });
    edge("I: not ends with its FACT, and binds ahead of or", () -> {
      holdsNot("not all and not all");
      holds("all or all and not all");
      holdsNot("[all or all] and not all");
      holds("not not all");
    });
    edge("I: SIGN is < or > or =", () -> {
      holds("1<2");
      holdsNot("2<2");
      holdsNot("3<2");
      holdsNot("1>2");
      holdsNot("2>2");
      holds("3>2");
      holdsNot("1=2");
      holds("2=2");
      holds("0-1<0");
      fault(1, "course 9;takes 1<@=2;");
      fault(1, "course 9;takes 1 @! 2;");
      fault(1, "course 9;takes 1=1@=1;");
    });
    edge("I: N of 1 to 4 digits", () -> {
      holds("0<1");
      holds("9999=9998+1");
      holds("0007=7");
      holds("0000=0");
      fault(1, "course 9;takes 1000@0=1;");
      fault(1, "course 9;takes 0000@1=1;");
    });
    edge("I: min, max of two, like ones too", () -> {
      holds("min(1,2)=1 and min(2,1)=1 and min(2,2)=2");
      holds("max(1,2)=2 and max(2,1)=2 and max(2,2)=2");
      holds("min(0-1,0)=0-1 and max(0-1,0)=0");
      fault(1, "course 9;light min(1@);");
      fault(1, "course 9;light max(1,2@,3);");
      fault(1, "course 9;light min@;");
    });
    edge("I: in light: mile, and none of the others", () -> {
      course(2, "course 9;light hour+mile;");
      for (String word : "strength light pace handed run far number care passed lit".split(" ")) {
        fault(1, "course 9;light @" + word + ";");
      }
    });
    edge("I: in wanes: strength, light, pace, handed, run", () -> {
      course(2, "course 9;wanes hour+strength+light+pace+handed+run;");
      for (String word : "mile far number care passed lit from".split(" ")) {
        fault(1, "course 9;wanes @" + word + ";");
      }
    });
    edge("I: in takes: strength, light, pace, far", () -> {
      course(2, "course 9;takes hour+strength+light+pace+far=1;");
      for (String word : "mile handed run number care passed lit from".split(" ")) {
        fault(1, "course 9;takes @" + word + "=1;");
      }
    });
    edge("I: light is 0 without", () -> {
      PassedDark x = course(2, "course 9;light 7;");
      read(x, "course 9;");
      due("light(9,60)", x.light(9, 60), 0);
      read(x, "course 9;");
      due("light(9,60) once more", x.light(9, 60), 0);
    });
    edge("I: wanes is strength-light without", () -> {
      String text = "course 9;bearer a at 0 pace 4;light mile;";
      due("later(1,1)", course(3, text).later(1, 1), 46);
      PassedDark x = course(4, text + "wanes 3;");
      read(x, text);
      due("later(1,1)", x.later(1, 1), 46);
      read(x, text);
      due("later(1,1) once more", x.later(1, 1), 46);
    });
    edge("I: takes is all without", () -> {
      String text = "course 9;bearer a at 0 pace 4;";
      due("bearer(0,3)", course(2, text).bearer(0, 3), 1);
      PassedDark x = course(3, text + "takes 1=2;");
      read(x, text);
      due("bearer(0,3)", x.bearer(0, 3), 1);
      read(x, text);
      due("bearer(0,3) once more", x.bearer(0, 3), 1);
    });
  }

  private static void limits() {
    edge("I: all from the left on", () -> {
      holds("9-4-3=2 and 9-4+3=8");
      holds("8/4/2=1 and 7/2*2=6 and 2*7/2=7");
      holds("1+2*3=7 and (1+2)*3=9 and 7-6/2=4");
    });
    edge("I: / gives the greatest whole number not above", () -> {
      holds("7/2=3 and 6/2=3 and 5/2=2 and 1/2=0 and 0/2=0");
      holds("(0-7)/2=0-4 and (0-6)/2=0-3 and (0-1)/9999=0-1");
      holds("7/(0-2)=0-4 and 6/(0-2)=0-3 and 1/(0-9999)=0-1");
      holds("(0-7)/(0-2)=3 and (0-6)/(0-2)=3 and (0-1)/(0-2)=0");
    });
    edge("I: / by 0 gives 0", () -> {
      holds("7/0=0 and 0/0=0 and (0-7)/0=0 and 7/(2-2)=0");
      due("light(0,0)", course(2, "course 9;light 3+7/mile;").light(0, 0), 3);
    });
    edge("I: each sum above 10 to the 6 is that", () -> {
      holds("999*1000+1000=1000*1000");
      holds("1000*1000+1=1000*1000");
      holds("1000*1000+9999-1=1000*1000-1");
      holds("(1000*1000+1000*1000)/2=1000*500");
    });
    edge("I: each difference above 10 to the 6 is that", () -> {
      holds("1000*1000-(0-1)=1000*1000");
      holds("(1000*1000-(0-1000*1000))/2=1000*500");
    });
    edge("I: each product above 10 to the 6 is that", () -> {
      holds("1001*1000=1000*1000");
      holds("9999*9999=1000*1000");
      holds("(0-9999)*(0-9999)=1000*1000");
    });
    edge("I: each sum below -10 to the 6 likewise", () -> {
      holds("0-999*1000+(0-1000)=0-1000*1000");
      holds("0-1000*1000+(0-1)=0-1000*1000");
    });
    edge("I: each difference below -10 to the 6 likewise", () -> {
      holds("0-1000*1000-1=0-1000*1000");
      holds("0-1000*1000-1000*1000+1=0-1000*1000+1");
    });
    edge("I: each product below -10 to the 6 likewise", () -> {
      holds("(0-1001)*1000=0-1000*1000");
      holds("9999*(0-9999)+1=1-1000*1000");
    });
    edge("I: none that is not above, not below is another one", () -> {
      holds("1000*1000-1=999*1000+999");
      holds("1-1000*1000=0-999*1000-999");
      holds("1000*1000>999*1000+999 and 0-1000*1000<0-999*1000-999");
      holds("1000*999=999*1000 and 1000*999<1000*1000");
    });
    edge("I: no product wraps around", () -> {
      holds("1000*1000*(1000*1000)=1000*1000");
      holds("(0-1000*1000)*(1000*1000)=0-1000*1000");
      holds("1000*1000*(0-9999)=0-1000*1000");
      holds("(0-1000*1000)*(0-1000*1000)=1000*1000");
      holds("1000*1000*4295=1000*1000 and 1000*1000*2148=1000*1000");
    });
    edge("I: / by -1 of the least and the greatest", () -> {
      holds("(0-1000*1000)/(0-1)=1000*1000");
      holds("1000*1000/(0-1)=0-1000*1000");
    });
  }

  private static void faults() {
    edge("I: the first FAULT along the text", () -> {
      fault(2, "course @4;what;");
      fault(1, "course 9;@what;course 4;");
      fault(2, "course 9;dark @0 5;light [;");
      fault(3, "course 9;bearer a at 0 pace 1;bearer @a5;");
      fault(5, "course 9;light 1;@light ((((((((;");
      fault(4, "course 9;light ((((((@(;");
    });
    edge("I: fault 1 at the text's length, if it ends too soon", () -> {
      for (String text : new String[] {"course", "course 9", "course 9;bearer", "course 9;bearer a",
          "course 9;bearer a at", "course 9;bearer a at 0", "course 9;bearer a at 0 pace",
          "course 9;bearer a at 0 pace 1", "course 9;house a at 0 care", "course 9;dark",
          "course 9;light", "course 9;light (", "course 9;light (1", "course 9;light 1+",
          "course 9;light 1*", "course 9;light min", "course 9;light min(1,", "course 9;takes",
          "course 9;takes not", "course 9;takes [all", "course 9;takes all and", "course 9;takes 1",
          "course 9;takes 1=", "course 9;takes all or", "course 9;trip", "course 9;trip 9"}) {
        fault(1, text + "@");
        fault(1, text + " \n @");
      }
    });
    edge("I: fault 1 has words and numbers whole, at their first byte", () -> {
      fault(1, "@cours 9;");
      fault(1, "@coursex 9;");
      fault(1, "course 9;@darker 5;");
      fault(1, "course 9;light @hours;");
      fault(1, "course 9;light @mil;");
      fault(1, "course 9;takes @a;");
      fault(1, "course 9;@1234;");
      fault(1, "course 9;bearer a @12 5;");
      fault(1, "course 9;light 1 @23;");
    });
    edge("I: fault 1 at a sign that no such text has", () -> {
      fault(1, "course 9;@;");
      fault(1, "course 9;dark @-1;");
      fault(1, "course 9;dark 1@.5;");
      fault(1, "course 9;light 1@);");
      fault(1, "course 9;light (1@];");
      fault(1, "course 9;light @[1];");
      fault(1, "course 9;takes [all@);");
      fault(1, "course 9;@Dark 5;");
    });
    edge("I: fault 1, a 5th digit at itself", () -> {
      fault(1, "course 1234@5;");
      fault(1, "course 0000@9;");
      fault(1, "course 9;dark 0000@000;");
      fault(1, "course 9;bearer a at 1111@1");
      fault(1, "course 9;light 9999@9;");
      due("four digits", course(1, "course 0009;").has(0), 9);
    });
    edge("I: fault 2, a number that can't be, at it", () -> {
      fault(2, "course @100;");
      fault(2, "course   @0100x");
      fault(2, "course 9;trip @101");
      fault(2, "course 9;bearer a at @10x");
    });
    edge("I: fault 3, a NAME that is there already, at it", () -> {
      fault(3, "course 9;bearer abc at 0 pace 1;house   @abc");
      fault(3, "course 9;bearer abcdef at 0 pace 1;bearer @abcdef");
    });
    edge("I: fault 5, one too many of a kind, at its first byte", () -> {
      fault(5, "course 9;" + crowd(8, 0) + " @bearer a at 99");
      fault(5, "course 9;" + crowd(0, 8) + "\n@house bearer");
      fault(5, "course 9;light 1; @light");
    });
  }

  private static void open() {
    edge("I: six of ( are not too many", () -> course(2, "course 9;light ((((((1))))));"));
    edge("I: fault 4, the 7th of ( at it", () -> fault(4, "course 9;light ((((((@(1)))))));"));
    edge("I: six of [ are not too many", () -> course(2, "course 9;takes [[[[[[all]]]]]];"));
    edge("I: fault 4, the 7th of [ at it", () -> fault(4, "course 9;takes [[[[[[@[all]]]]]]];"));
    edge("I: six of not are not too many", () -> course(2, "course 9;takes not not not not not not all;"));
    edge("I: fault 4, the 7th of not at it", () -> {
      fault(4, "course 9;takes not not not not not not @not all;");
      fault(4, "course 9;takes not not not not not not  @not");
    });
    edge("I: fault 4, the ( of min, max too", () -> {
      course(2, "course 9;light min(1,max(2,min(3,max(4,min(5,max(6,7))))));");
      fault(4, "course 9;light min(1,max(2,min(3,max(4,min(5,max(6,min @(7,8)))))));");
      fault(4, "course 9;light ((((((max@(1,2)))))));");
    });
    edge("I: fault 4 of all sorts together", () -> {
      course(2, "course 9;takes not [not [(max(1,2))=2]];");
      fault(4, "course 9;takes not [not [(max(1,@(2)))=2]];");
      fault(4, "course 9;takes not [not [not [@(1)=1]]];");
      fault(4, "course 9;takes [[[[[[@not all]]]]]];");
      fault(4, "course 9;takes not not not not not not @[all];");
    });
    edge("I: not is open until its FACT ends", () -> {
      fault(4, "course 9;takes not not not not not not @(1)=1;");
      fault(4, "course 9;takes not not not not not not 1=@(1);");
      course(2, "course 9;takes not not not not not not 1=1 and (1)=1 or [all];");
      course(2, "course 9;takes " + times(20, "not 1=1 and ") + "((((((1))))))=1;");
    });
    edge("I: what is closed is no longer open", () -> {
      course(2, "course 9;light " + times(30, "((((((1))))))+") + "1;");
      course(2, "course 9;takes " + times(30, "[[[[[[all]]]]]] or ") + "all;");
      course(2, "course 9;light " + times(9, "min(1,(2))+") + "((((((1))))));");
    });
    edge("I: each formula begins with nothing open", () -> {
      course(4, "course 9;light ((((((1))))));wanes ((((((1))))));takes [[[[[[all]]]]]];");
      PassedDark x = new PassedDark();
      due("a fault with six open", read(x, "course 9;light ((((((what"), -1);
      due("a course behind it", read(x, "course 9;light ((((((1))))));"), 2);
    });
  }
}
