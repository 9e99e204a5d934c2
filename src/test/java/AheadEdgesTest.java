/** Promises 12 to 21 and Terms III: a test for each sentence that names a boundary case. */
public final class AheadEdgesTest {
  private static int wrong = 0;
  private static String sentence = "";

  private static void edge(String words, Runnable test) {
    sentence = words;
    test.run();
  }

  private static void due(String call, long got, long want) {
    if (got != want) {
      wrong++;
      System.out.println(sentence + " - " + call + " answered " + got + ", due is " + want);
    }
  }

  private static void due(String call, boolean got, boolean want) {
    due(call, got ? 1 : 0, want ? 1 : 0);
  }

  private static void feed(PassedDark x, int... bytes) {
    for (int at = 0; at < bytes.length; at += 20) {
      int[] five = new int[5];
      for (int i = 0; i < 20; i++) {
        five[i / 4] = five[i / 4] << 8 | (at + i < bytes.length ? bytes[at + i] & 255 : 32);
      }
      x.feed(five[0], five[1], five[2], five[3], five[4]);
    }
    x.end(bytes.length);
  }

  private static PassedDark course(String text) {
    PassedDark x = new PassedDark();
    feed(x, text.chars().toArray());
    due("course() of " + text, x.course() > 0, true);
    return x;
  }

  private static final int[] OFF = {Integer.MIN_VALUE, -256, -2, -1};

  /** Goes on by many hours, a hundred at a time, with the dark out, and kindles it then. */
  private static PassedDark atHour(int hour, String text) {
    PassedDark x = course(text);
    int strength = x.has(5);
    x.kindle(0);
    for (int left = hour; left > 0; left -= 100) {
      x.hours(Math.min(left, 100));
    }
    x.kindle(strength);
    due("has(3)", x.has(3), hour);
    return x;
  }

  public static void main(String[] args) {
    ahead();
    through();
    few();
    post();
    change();
    least();
    odds();
    see();
    strengths();
    tells();
    if (wrong != 0) {
      System.exit(1);
    }
  }

  // ---------------------------------------------------------------- promises 12 and 13

  private static void ahead() {
    edge("12: behind 0 HOURS AHEAD it is as it is now", () -> {
      PassedDark x = course("course 20;bearer a at 3 pace 4;house h at 4 care 1;wanes strength-7;");
      x.hours(1);
      due("later(0,0)", x.later(0, 0), 7);
      due("later(0,1)", x.later(0, 1), 43);
      due("later(0,2)", x.later(0, 2), 0);
      due("later(0,3)", x.later(0, 3), 1);
    });
    edge("12: 0 .. 60 HOURS AHEAD, NONE when n can't be", () -> {
      PassedDark x = course("course 99;bearer a at 0 pace 1;wanes 99;");
      due("later(59,0)", x.later(59, 0), 59);
      due("later(60,0)", x.later(60, 0), 60);
      for (int what = 0; what <= 3; what++) {
        due("later(61," + what + ")", x.later(61, what), -1);
        due("later(-1," + what + ")", x.later(-1, what), -1);
      }
      due("later(most,0)", x.later(Integer.MAX_VALUE, 0), -1);
      due("later(least,0)", x.later(Integer.MIN_VALUE, 0), -1);
    });
    edge("III: AHEAD are not beyond HOUR 999", () -> {
      PassedDark x = atHour(939, "course 99;bearer a at 0 pace 1;");
      due("later(60,0) at hour 939", x.later(60, 0), 60);
      x.hours(1);
      due("later(60,0) at hour 940", x.later(60, 0), -1);
      due("later(59,0) at hour 940", x.later(59, 0), 60);
      PassedDark last = atHour(999, "course 99;bearer a at 0 pace 1;");
      due("later(0,1) at hour 999", last.later(0, 1), 50);
      due("later(1,1) at hour 999", last.later(1, 1), -1);
    });
    edge("III: AHEAD are without DRAWS", () -> {
      PassedDark x = course("course 99;bearer a at 0 pace 1;trip 100;");
      due("later(9,1)", x.later(9, 1), 50);
      x.through();
      x.odds();
      due("chance(1) by the seed as it was", x.chance(1), 1);
      due("has(5)", x.has(5), 41);
    });
    edge("12: who has it, NONE", () -> {
      due("later(3,2)", course("course 9;").later(3, 2), -1);
      due("later(3,2)", course("course 9;bearer a at 0 pace 1;").later(3, 2), 0);
    });
    edge("12: the HOUSES that are PASSED, as bits", () -> {
      StringBuilder text = new StringBuilder("course 9;bearer a at 0 pace 1;");
      for (int i = 0; i < 8; i++) {
        text.append("house h").append((char) ('a' + i)).append(" at ").append(i + 1).append(" care 0;");
      }
      PassedDark x = course(text.toString());
      due("later(0,3)", x.later(0, 3), 0);
      due("later(1,3)", x.later(1, 3), 1);
      due("later(7,3)", x.later(7, 3), 127);
      due("later(8,3)", x.later(8, 3), 255);
    });
    edge("12: NONE without a course", () -> {
      PassedDark x = new PassedDark();
      for (int what = 0; what <= 3; what++) {
        due("later(0," + what + ")", x.later(0, what), -1);
      }
    });
    edge("12: NONE for others", () -> {
      PassedDark x = course("course 9;");
      due("later(0,4)", x.later(0, 4), -1);
      for (int off : OFF) {
        due("later(0," + off + ")", x.later(0, off), -1);
      }
    });
    edge("III: what is AHEAD changes nothing now", () -> {
      PassedDark x = course(THREE);
      x.hours(1);
      x.aside(2, 1);
      x.later(60, 0);
      x.through();
      x.few();
      x.post(1, 0);
      x.post(2, 1);
      x.change(2);
      x.least();
      x.odds();
      x.strengths(-1);
      x.tells(0);
      int[] has = {12, 3, 0, 1, 1, 35, 0, 0, 0, 1, 0, 2};
      for (int what = 0; what < has.length; what++) {
        due("has(" + what + ")", x.has(what), has[what]);
      }
      int[] miles = {1, 3, 6};
      for (int b = 0; b < 3; b++) {
        due("bearer(" + b + ",0)", x.bearer(b, 0), miles[b]);
        due("bearer(" + b + ",2)", x.bearer(b, 2), b == 2 ? 1 : 0);
      }
    });
  }

  private static final String THREE = "course 12;bearer a at 0 pace 1;bearer b at 3 pace 4;"
      + "bearer c at 6 pace 2;dark 40;wanes strength-5;";

  private static void through() {
    edge("13: 0 HOURS: now", () -> {
      due("through()", course("course 9;bearer a at 9 pace 1;").through(), 0);
      due("through() one mile off", course("course 9;bearer a at 8 pace 1;").through(), 1);
    });
    edge("13: 60 HOURS at most", () -> {
      due("through() of 60", course("course 60;bearer a at 0 pace 1;").through(), 60);
      due("through() of 61", course("course 61;bearer a at 0 pace 1;").through(), -1);
      PassedDark x = course("course 61;bearer a at 0 pace 1;");
      x.hours(1);
      due("through() an hour on", x.through(), 60);
    });
    edge("13: by HOUR 999", () -> {
      due("through() at 994", atHour(994, "course 5;bearer a at 0 pace 1;").through(), 5);
      due("through() at 995", atHour(995, "course 5;bearer a at 0 pace 1;").through(), -1);
      due("through() at 999", atHour(999, "course 5;bearer a at 5 pace 1;").through(), 0);
    });
    edge("13: NONE when it goes OUT ahead of it, or there", () -> {
      String text = "course 5;bearer a at 0 pace 1;wanes strength-10;dark ";
      due("through() of 50", course(text + "50;").through(), -1);
      due("through() of 51", course(text + "51;").through(), 5);
      due("through() of 1", course(text + "1;").through(), -1);
      PassedDark x = course("course 5;bearer a at 5 pace 1;");
      x.kindle(0);
      due("through() when it is out there", x.through(), -1);
    });
    edge("13: NONE without BEARERS", () -> due("through()", course("course 9;").through(), -1));
    edge("13: NONE without a course", () -> due("through()", new PassedDark().through(), -1));
  }

  // ---------------------------------------------------------------- promises 14 to 18

  // a alone is out by the third hour; by b or c it comes through in two.
  private static final String HELP = "course 9;bearer a at 0 pace 1;bearer b at 1 pace 9;"
      + "bearer c at 1 pace 9;dark 3;wanes strength-1;";

  private static void few() {
    edge("14: none at all are needed", () -> {
      due("few()", course("course 9;bearer a at 0 pace 9;bearer b at 1 pace 9;").few(), 0);
      due("few() of one bearer", course("course 9;bearer a at 0 pace 9;").few(), 0);
    });
    edge("14: none at all are needed, if it is THROUGH now", () ->
        due("few()", course("course 9;bearer a at 9 pace 9;wanes 0;").few(), 0));
    edge("14: NONE when all are not enough", () -> {
      due("few()", course("course 9;bearer a at 0 pace 1;bearer b at 8 pace 9;dark 3;wanes strength-1;").few(), -1);
      due("few() of one bearer", course("course 9;bearer a at 0 pace 1;dark 3;wanes strength-1;").few(), -1);
      due("few() without bearers", course("course 9;").few(), -1);
      PassedDark out = course(HELP);
      out.kindle(0);
      due("few() when it is out", out.few(), -1);
    });
    edge("14: NONE without a course", () -> due("few()", new PassedDark().few(), -1));
    edge("III: a FEW, of like ones the least bits", () -> due("few()", course(HELP).few(), 2));
    edge("III: a FEW are not ASIDE", () -> {
      PassedDark x = course(HELP);
      x.aside(1, 1);
      due("few()", x.few(), 4);
      x.aside(2, 1);
      due("few()", x.few(), -1);
    });
    edge("III: a FEW do not have it", () -> {
      PassedDark x = course(HELP);
      x.hours(1);
      due("has(6)", x.has(6), 1);
      due("few()", x.few(), 0);
    });
    edge("III: a FEW are the fewest, ahead of less bits", () -> due("few()",
        course("course 9;bearer a at 0 pace 1;bearer b at 2 pace 2;bearer c at 3 pace 2;"
            + "bearer d at 1 pace 9;dark 5;wanes strength-1+handed;").few(), 8));
    edge("III: all of them, if all are needed", () -> due("few()",
        course("course 9;bearer a at 0 pace 1;bearer b at 1 pace 1;bearer c at 2 pace 1;dark 8;"
            + "wanes strength-1+handed;").few(), 6));
    edge("III: all others being ASIDE, who may be in the way", () -> {
      PassedDark x = course("course 9;bearer a at 0 pace 9;bearer b at 1 pace 1;dark 2;wanes strength-1;");
      due("through()", x.through(), -1);
      due("few()", x.few(), 0);
    });
    edge("III: a FEW of eight", () -> {
      StringBuilder text = new StringBuilder("course 9;dark 3;wanes strength-1;bearer z at 0 pace 1;");
      for (int i = 0; i < 7; i++) {
        text.append("bearer b").append((char) ('a' + i)).append(" at ").append(i == 6 ? 1 : 9).append(" pace 9;");
      }
      due("few() of the last one", course(text.toString()).few(), 128);
    });
    edge("14: within 60 HOURS, by HOUR 999", () -> {
      due("few() of 60 hours", course("course 60;bearer a at 0 pace 1;").few(), 0);
      due("few() of 61 hours", course("course 61;bearer a at 0 pace 1;").few(), -1);
      due("few() of 61 hours, by one who runs two", course("course 62;bearer a at 0 pace 1;"
          + "bearer b at 58 pace 2;").few(), 2);
      due("few() at 994", atHour(994, "course 5;bearer a at 0 pace 1;").few(), 0);
      due("few() at 995", atHour(995, "course 5;bearer a at 0 pace 1;").few(), -1);
    });
  }

  private static void post() {
    edge("15: MILE 0 and on, of like ones the least", () -> {
      PassedDark x = course("course 9;bearer a at 0 pace 3;bearer b at 5 pace 3;");
      due("post(1,0)", x.post(1, 0), 0);
      due("post(1,1)", x.post(1, 1), 50);
      PassedDark same = course("course 9;bearer a at 0 pace 9;bearer b at 5 pace 9;wanes strength-2+handed*9-handed*run;");
      due("post(1,0), 1 alone is best", same.post(1, 0), 1);
    });
    edge("15: the last MILE too", () -> {
      PassedDark x = course("course 9;bearer a at 0 pace 9;bearer b at 0 pace 9;wanes strength-2+handed;");
      due("post(1,0)", x.post(1, 0), 9);
      due("post(1,1)", x.post(1, 1), 49);
    });
    edge("15: how strong it is when it is THROUGH, 1 at the least", () -> {
      PassedDark x = course("course 9;bearer a at 0 pace 9;bearer b at 0 pace 9;dark 2;wanes strength-1;");
      due("post(1,0)", x.post(1, 0), 0);
      due("post(1,1)", x.post(1, 1), 1);
      PassedDark now = course("course 9;bearer a at 9 pace 9;bearer b at 9 pace 9;dark 99;");
      due("post(1,0), through now", now.post(1, 0), 0);
      due("post(1,1)", now.post(1, 1), 99);
    });
    edge("15: NONE when it does not COME THROUGH by any", () -> {
      PassedDark x = course("course 9;bearer a at 0 pace 1;bearer b at 5 pace 1;dark 9;wanes strength-1;");
      due("post(1,0)", x.post(1, 0), -1);
      due("post(1,1)", x.post(1, 1), -1);
      x.kindle(10);
      due("post(1,0) of 10", x.post(1, 0), 0);
      due("post(1,1) of 10", x.post(1, 1), 1);
      x.kindle(0);
      due("post(1,0), out", x.post(1, 0), -1);
    });
    edge("15: NONE when he has it", () -> {
      PassedDark x = course("course 9;bearer a at 0 pace 3;bearer b at 5 pace 3;");
      due("post(0,0)", x.post(0, 0), -1);
      due("post(0,1)", x.post(0, 1), -1);
      x.hours(2);
      due("post(1,0) of him who has taken it", x.post(1, 0), -1);
      due("post(0,0) of him who has handed it over", x.post(0, 0), 0);
    });
    edge("15: NONE when there is none such", () -> {
      PassedDark x = course("course 9;bearer a at 0 pace 3;bearer b at 5 pace 3;");
      due("post(2,0)", x.post(2, 0), -1);
      due("post(most,0)", x.post(Integer.MAX_VALUE, 0), -1);
      for (int off : OFF) {
        due("post(" + off + ",0)", x.post(off, 0), -1);
      }
      due("post(-1,0) where nobody has it", course("course 9;").post(-1, 0), -1);
      due("post(0,0) without a course", new PassedDark().post(0, 0), -1);
    });
    edge("15: NONE for others", () -> {
      PassedDark x = course("course 9;bearer a at 0 pace 3;bearer b at 5 pace 3;");
      due("post(1,2)", x.post(1, 2), -1);
      for (int off : OFF) {
        due("post(1," + off + ")", x.post(1, off), -1);
      }
    });
    edge("III: a POST of one who is ASIDE", () -> {
      PassedDark x = course(HELP);
      x.aside(2, 1);
      due("post(1,0)", x.post(1, 0), 1);
      due("post(2,0), ASIDE at any", x.post(2, 0), 0);
      due("post(2,1), by the other one", x.post(2, 1), 1);
      x.aside(1, 1);
      due("post(1,0), ASIDE at any", x.post(1, 0), -1);
    });
    edge("III: a POST within 60 HOURS", () -> {
      due("post(1,0)", course("course 62;bearer a at 0 pace 1;bearer b at 0 pace 2;wanes strength;").post(1, 0), 1);
      due("post(1,0)", course("course 61;bearer a at 0 pace 1;bearer b at 0 pace 1;wanes strength;").post(1, 0), -1);
    });
  }

  private static void change() {
    edge("16: of like ones none", () -> {
      PassedDark x = course("course 9;bearer a at 0 pace 3;bearer b at 5 pace 3;bearer c at 6 pace 3;");
      due("change(0)", x.change(0), -1);
      due("change(1)", x.change(1), -1);
      due("change(2)", x.change(2), 50);
    });
    edge("16: of like ones the first, by the less number, then by the other one", () -> {
      PassedDark x = course("course 9;bearer a at 0 pace 1;bearer b at 9 pace 9;bearer c at 1 pace 1;"
          + "bearer d at 1 pace 1;wanes strength-1;");
      due("change(0)", x.change(0), 1);
      due("change(1)", x.change(1), 2);
      due("change(2)", x.change(2), 48);
      PassedDark y = course("course 9;bearer a at 0 pace 1;bearer c at 1 pace 1;bearer b at 9 pace 9;"
          + "bearer d at 9 pace 9;wanes strength-1;");
      due("change(0)", y.change(0), 1);
      due("change(1)", y.change(1), 2);
    });
    edge("16: one who has it is neither of them", () -> {
      PassedDark x = course("course 9;bearer c at 9 pace 9;bearer a at 0 pace 1;bearer b at 1 pace 1;wanes strength-1;");
      due("change(0)", x.change(0), 0);
      due("change(1)", x.change(1), 2);
      due("change(2)", x.change(2), 48);
      PassedDark slow = course("course 9;bearer a at 0 pace 9;bearer b at 1 pace 1;wanes strength-1;");
      due("change(0), one in the way", slow.change(0), -1);
      due("change(2), one in the way", slow.change(2), 41);
    });
    edge("16: two, no more of them, wait elsewhere", () -> {
      // With d at 1 it takes 6 hours; with c there and d at 5 it would take 4, but those are three.
      PassedDark x = course("course 20;bearer a at 0 pace 1;bearer b at 1 pace 1;bearer c at 5 pace 4;"
          + "bearer d at 20 pace 9;wanes strength-1;");
      due("change(0)", x.change(0), 1);
      due("change(1)", x.change(1), 3);
      due("change(2)", x.change(2), 44);
    });
    edge("16: 0 if it does not COME THROUGH", () -> {
      PassedDark x = course("course 9;bearer a at 0 pace 1;bearer b at 5 pace 1;bearer c at 6 pace 1;dark 9;wanes strength-1;");
      due("change(0)", x.change(0), -1);
      due("change(1)", x.change(1), -1);
      due("change(2)", x.change(2), 0);
      due("change(2) without bearers", course("course 9;").change(2), 0);
      due("change(0) without bearers", course("course 9;").change(0), -1);
    });
    edge("16: two by whom alone it COMES THROUGH", () -> {
      PassedDark x = course("course 9;bearer a at 0 pace 1;bearer b at 9 pace 9;bearer c at 1 pace 1;dark 3;wanes strength-1;");
      due("through()", x.through(), -1);
      due("change(0)", x.change(0), 1);
      due("change(1)", x.change(1), 2);
      due("change(2)", x.change(2), 1);
    });
    edge("16: ASIDE or not as they are", () -> {
      PassedDark x = course("course 9;bearer a at 0 pace 1;bearer b at 9 pace 9;bearer c at 1 pace 1;dark 3;wanes strength-1;");
      x.aside(2, 1);
      due("change(2), the other one aside", x.change(2), 1);
      x.aside(2, 0);
      x.aside(1, 1);
      due("change(0), the one aside", x.change(0), -1);
      due("change(2)", x.change(2), 0);
    });
    edge("16: NONE without a course", () -> {
      PassedDark x = new PassedDark();
      for (int what = 0; what <= 2; what++) {
        due("change(" + what + ")", x.change(what), -1);
      }
    });
    edge("16: NONE for others", () -> {
      PassedDark x = course("course 9;bearer a at 0 pace 3;");
      due("change(3)", x.change(3), -1);
      for (int off : OFF) {
        due("change(" + off + ")", x.change(off), -1);
      }
    });
  }

  private static void least() {
    edge("17: 1 is the least", () -> {
      due("least()", course("course 9;bearer a at 0 pace 1;").least(), 1);
      PassedDark there = course("course 9;bearer a at 9 pace 1;wanes 0;");
      there.kindle(0);
      due("least() at the last mile", there.least(), 1);
    });
    edge("17: 99 is the most", () -> {
      due("least()", course("course 7;bearer a at 0 pace 1;wanes strength-14;").least(), 99);
      due("least()", course("course 98;bearer a at 38 pace 1;wanes strength-1;").least(), 61);
    });
    edge("17: NONE when 99 is not enough", () -> {
      due("least()", course("course 7;bearer a at 0 pace 1;wanes strength-15;").least(), -1);
      due("least() of 61 hours", course("course 61;bearer a at 0 pace 1;").least(), -1);
      due("least() without bearers", course("course 7;").least(), -1);
      due("least() at 995", atHour(995, "course 5;bearer a at 0 pace 1;").least(), -1);
      due("least() at 994", atHour(994, "course 5;bearer a at 0 pace 1;").least(), 1);
    });
    edge("17: NONE without a course", () -> due("least()", new PassedDark().least(), -1));
    edge("III: whatever strength it has now", () -> {
      PassedDark x = course("course 9;bearer a at 0 pace 1;wanes strength-2;");
      due("least()", x.least(), 19);
      x.kindle(0);
      due("least(), out", x.least(), 19);
      x.kindle(99);
      due("least() of 99", x.least(), 19);
    });
  }

  private static void odds() {
    edge("18: 1000 rows at the most", () -> {
      due("odds() without trip", course("course 9;trip 0;dark 1;").odds(), 1000);
      due("odds() of 10", course("course 9;trip 100;dark 10;").odds(), 1000);
      due("odds() of 9", course("course 9;trip 100;dark 9;").odds(), 900);
      due("odds() of 50", course("course 9;trip 100;").odds(), 1000);
      due("odds() of 50", course("course 9;trip 50;").odds(), 1000);
    });
    edge("18: 0 rows at the least", () -> {
      PassedDark x = course("course 9;trip 50;");
      x.kindle(0);
      due("odds(), out", x.odds(), 0);
      due("odds() of one that goes out", course("course 9;bearer a at 0 pace 1;wanes 0;trip 50;").odds(), 0);
    });
    edge("18: a number below 100, below trip, a number below 10", () -> {
      due("odds() of 1, trip 1", course("course 9;trip 1;dark 1;").odds(), 991);
      due("odds() of 5, trip 40", course("course 9;trip 40;dark 5;").odds(), 600 + 40 * 5);
      due("odds() of 5, trip 99", course("course 9;trip 99;dark 5;").odds(), 10 + 99 * 5);
      due("odds() of 1, trip 100", course("course 9;trip 100;dark 1;").odds(), 100);
    });
    edge("III: not OUT behind the next HOUR", () -> {
      String text = "course 9;bearer a at 0 pace 1;wanes strength-3;trip 40;dark ";
      due("odds() of 3", course(text + "3;").odds(), 0);
      due("odds() of 4", course(text + "4;").odds(), 600 + 40);
      due("odds() of 12", course(text + "12;").odds(), 600 + 40 * 9);
      due("odds() of 13", course(text + "13;").odds(), 1000);
      due("odds() of one that grows", course("course 9;bearer a at 0 pace 1;wanes 9;trip 40;dark 4;").odds(), 600 + 40 * 4);
    });
    edge("18: NONE without a course", () -> due("odds()", new PassedDark().odds(), -1));
    edge("18: NONE at HOUR 999", () -> {
      due("odds() at 998", atHour(998, "course 9;bearer a at 0 pace 1;").odds(), 1000);
      due("odds() at 999", atHour(999, "course 9;bearer a at 0 pace 1;").odds(), -1);
    });
  }

  // ---------------------------------------------------------------- promises 19 to 21

  // h is passed in the first hour from 20 on, k in the third from 50 on (5 miles are run by then).
  private static final String TWO = "course 10;bearer a at 0 pace 3;bearer b at 5 pace 4;"
      + "house h at 2 care 20;house k at 9 care 45;wanes strength-run;";

  private static int seen(PassedDark x, int... bytes) {
    feed(x, bytes);
    return x.see();
  }

  private static void left(PassedDark x, int least, int most) {
    int count = most - least + 1;
    due("strengths(-1)", x.strengths(-1), count);
    due("strengths(0)", x.strengths(0), count > 0 ? least : -1);
    due("strengths(" + (count - 1) + ")", count > 0 ? x.strengths(count - 1) : most, most);
    due("strengths(" + count + ")", x.strengths(count), -1);
  }

  /** A call of see() that is refused: NONE, counted once, what is SEEN stays, the tape goes. */
  private static void refused(int... bytes) {
    PassedDark x = course(TWO);
    seen(x, 1, 0, 1, 30, 1, 0);
    due("see()", seen(x, bytes), -1);
    due("status(1)", x.status(1), 1);
    due("has(10)", x.has(10), 2);
    left(x, 20, 49);
    due("end(1)", x.end(1), false);
  }

  private static void see() {
    edge("19: 1 to 16 rows", () -> {
      due("see() of 1", seen(course(TWO), 0, 0, 0), 1);
      PassedDark x = course(TWO);
      due("see() of 16", seen(x, new int[48]), 16);
      due("has(10)", x.has(10), 16);
      due("status(1)", x.status(1), 0);
    });
    edge("19: the last row of 16 is seen", () -> {
      PassedDark x = course(TWO);
      int[] rows = new int[48];
      rows[45] = 1;
      rows[47] = 1;
      seen(x, rows);
      left(x, 20, 99);
    });
    edge("19: the tape goes", () -> {
      PassedDark x = course(TWO);
      seen(x, 0, 0, 0);
      due("end(1)", x.end(1), false);
      due("feed", x.feed(0, 0, 0, 0, 0), 20);
    });
    edge("19: what is SEEN is what the tape tells, no more", () -> {
      PassedDark x = course(TWO);
      seen(x, 1, 0, 1, 30, 1, 0);
      due("see()", seen(x, 1, 0, 1), 1);
      due("has(10)", x.has(10), 1);
      left(x, 20, 99);
    });
    edge("19: refused with no row", () -> refused());
    edge("19: refused with 17 rows", () -> refused(new int[51]));
    edge("19: refused with more than the tape's 16 rows, by far", () -> refused(new int[900]));
    edge("19: refused, if it is not rows of three bytes", () -> {
      refused(0);
      refused(0, 0);
      refused(0, 0, 0, 0);
      refused(new int[47]);
      refused(new int[49]);
    });
    edge("III: HOURS AHEAD 0 .. 30", () -> {
      due("see() of 30", seen(course(TWO), 30, 0, 0), 1);
      refused(31, 0, 0);
      refused(255, 0, 0);
      refused(0, 0, 0, 31, 0, 0);
    });
    edge("III: a HOUSE that there is", () -> {
      due("see() of 1", seen(course(TWO), 0, 1, 0), 1);
      refused(0, 2, 0);
      refused(0, 255, 0);
      refused(0, 0, 0, 0, 2, 0);
      due("see() without houses", seen(course("course 9;"), 0, 0, 0), -1);
    });
    edge("III: 1 if it is PASSED, else 0", () -> {
      due("see() of 1", seen(course(TWO), 0, 1, 1), 1);
      refused(0, 0, 2);
      refused(0, 0, 255);
      refused(0, 0, 0, 0, 0, 2);
    });
    edge("19: refused without a course", () -> {
      PassedDark x = new PassedDark();
      due("see()", seen(x, 0, 0, 0), -1);
      due("status(1)", x.status(1), 1);
      due("end(1)", x.end(1), false);
    });
  }

  private static void strengths() {
    edge("20: all, if nothing is SEEN", () -> {
      left(course(TWO), 0, 99);
      left(atHour(999, TWO), 0, 99);
    });
    edge("III: STRENGTHS 0 .. 99", () -> {
      PassedDark x = course("course 9;bearer a at 0 pace 1;house h at 1 care 99;house k at 1 care 0;");
      seen(x, 1, 0, 1);
      left(x, 99, 99);
      seen(x, 1, 1, 0);
      left(x, 0, 0);
    });
    edge("III: so that all is so", () -> {
      PassedDark x = course(TWO);
      seen(x, 1, 0, 1, 3, 1, 0);
      left(x, 20, 49);
      seen(x, 1, 0, 1, 1, 0, 0);
      left(x, 0, -1);
      seen(x, 1, 0, 1, 1, 0, 1);
      left(x, 20, 99);
    });
    edge("III: behind 0 HOURS it is as it is now", () -> {
      PassedDark x = course(TWO);
      seen(x, 0, 0, 0);
      left(x, 0, 99);
      seen(x, 0, 0, 1);
      left(x, 0, -1);
      x.hours(1);
      left(x, 0, 99);
    });
    edge("III: behind 30 HOURS", () -> {
      PassedDark x = course("course 40;bearer a at 0 pace 1;house h at 30 care 50;house k at 31 care 50;");
      seen(x, 30, 0, 1);
      left(x, 50, 99);
      seen(x, 30, 1, 1);
      left(x, 0, -1);
      seen(x, 29, 0, 1);
      left(x, 0, -1);
    });
    edge("20: HOURS beyond 999 are by none", () -> {
      PassedDark x = atHour(997, "course 40;bearer a at 0 pace 1;house h at 2 care 50;wanes strength;");
      seen(x, 2, 0, 1);
      left(x, 50, 99);
      seen(x, 3, 0, 1);
      left(x, 0, -1);
      seen(x, 3, 0, 0);
      left(x, 0, -1);
      seen(x, 0, 0, 0, 3, 0, 0);
      left(x, 0, -1);
    });
    edge("20: how many (k NONE), 0 too", () -> {
      PassedDark x = course(TWO);
      due("strengths(-1)", x.strengths(-1), 100);
      seen(x, 0, 0, 1);
      due("strengths(-1) of none", x.strengths(-1), 0);
    });
    edge("20: the k-th, rising, NONE when there is none such", () -> {
      PassedDark x = course(TWO);
      for (int k = 0; k < 100; k++) {
        due("strengths(" + k + ")", x.strengths(k), k);
      }
      for (int k : new int[] {100, 101, -2, -3, Integer.MAX_VALUE, Integer.MIN_VALUE}) {
        due("strengths(" + k + ")", x.strengths(k), -1);
      }
    });
    edge("20: rising, with gaps", () -> {
      PassedDark x = course("course 9;bearer a at 0 pace 1;house h at 2 care 50;wanes 99-strength;");
      seen(x, 2, 0, 0);
      due("strengths(-1)", x.strengths(-1), 51);
      due("strengths(0)", x.strengths(0), 0);
      due("strengths(1)", x.strengths(1), 50);
      due("strengths(50)", x.strengths(50), 99);
      due("strengths(51)", x.strengths(51), -1);
    });
    edge("20: NONE without a course", () -> {
      PassedDark x = new PassedDark();
      due("strengths(-1)", x.strengths(-1), -1);
      due("strengths(0)", x.strengths(0), -1);
    });
    edge("III: whatever strength it has now", () -> {
      PassedDark x = course(TWO);
      seen(x, 1, 0, 1);
      x.kindle(0);
      left(x, 20, 99);
    });
  }

  private static void telling(PassedDark x, int hours, int house, int most) {
    due("tells(0)", x.tells(0), hours);
    due("tells(1)", x.tells(1), house);
    due("tells(2)", x.tells(2), most);
  }

  private static void tells() {
    edge("III: the most of these left are fewest", () -> {
      PassedDark x = course(TWO);
      telling(x, 3, 1, 50);
      seen(x, 3, 1, 0);
      telling(x, 1, 0, 30);
    });
    edge("III: of like ones the first, HOUR by HOUR", () -> telling(
        course("course 9;bearer a at 0 pace 1;house k at 3 care 50;house h at 2 care 50;wanes strength;"), 2, 1, 50));
    edge("III: of like ones the first, HOUSE by HOUSE", () -> {
      telling(course("course 9;bearer a at 0 pace 1;house h at 2 care 30;house k at 2 care 70;wanes strength;"), 2, 0, 70);
      telling(course("course 9;bearer a at 0 pace 1;house h at 2 care 70;house k at 2 care 30;wanes strength;"), 2, 0, 70);
    });
    edge("III: 1 HOUR AHEAD at the least", () -> {
      PassedDark x = course("course 9;bearer a at 0 pace 1;house h at 1 care 1;");
      telling(x, 1, 0, 99);
      x.hours(1);
      telling(x, 1, 0, 100);
    });
    edge("III: 30 HOURS AHEAD at the most", () -> {
      telling(course("course 40;bearer a at 0 pace 1;house h at 30 care 50;wanes strength;"), 30, 0, 50);
      telling(course("course 40;bearer a at 0 pace 1;house h at 31 care 50;wanes strength;"), 1, 0, 100);
    });
    edge("III: TELLING is not beyond HOUR 999", () -> {
      telling(atHour(997, "course 9;bearer a at 0 pace 1;house h at 2 care 50;wanes strength;"), 2, 0, 50);
      telling(atHour(998, "course 9;bearer a at 0 pace 1;house h at 2 care 50;wanes strength;"), 1, 0, 100);
    });
    edge("III: the last HOUSE of eight", () -> {
      StringBuilder text = new StringBuilder("course 9;bearer a at 0 pace 1;");
      for (int i = 0; i < 8; i++) {
        text.append("house h").append((char) ('a' + i)).append(" at 2 care ").append(i == 7 ? 50 : 60).append(';');
      }
      telling(course(text.toString()), 2, 7, 50);
    });
    edge("21: one STRENGTH that is left", () -> {
      PassedDark x = course("course 9;bearer a at 0 pace 1;house h at 1 care 99;");
      seen(x, 1, 0, 1);
      telling(x, 1, 0, 1);
    });
    edge("21: NONE without any", () -> {
      PassedDark x = course(TWO);
      seen(x, 0, 0, 1);
      telling(x, -1, -1, -1);
    });
    edge("21: NONE without HOUSES", () -> telling(course("course 9;bearer a at 0 pace 1;"), -1, -1, -1));
    edge("21: NONE when no HOUR comes", () -> telling(atHour(999, TWO), -1, -1, -1));
    edge("21: NONE without a course", () -> telling(new PassedDark(), -1, -1, -1));
    edge("21: NONE for others", () -> {
      PassedDark x = course(TWO);
      due("tells(3)", x.tells(3), -1);
      for (int off : OFF) {
        due("tells(" + off + ")", x.tells(off), -1);
      }
    });
  }
}
