/** Promises 12 to 18: hours ahead, the fewest bearers, posts, changes, the least dark, odds. */
public final class AheadTest {
  private static int wrong = 0;

  private static void due(String call, long got, long want) {
    if (got != want) {
      wrong++;
      System.out.println("ahead: " + call + " answered " + got + ", due is " + want);
    }
  }

  private static PassedDark course(String text) {
    PassedDark x = new PassedDark();
    for (int at = 0; at < text.length(); at += 20) {
      int[] five = new int[5];
      for (int i = 0; i < 20; i++) {
        five[i / 4] = five[i / 4] << 8 | (at + i < text.length() ? text.charAt(at + i) & 255 : 32);
      }
      x.feed(five[0], five[1], five[2], five[3], five[4]);
    }
    x.end(text.length());
    if (x.course() < 1) {
      wrong++;
      System.out.println("ahead: no course by " + text + ": " + x.fault(0) + " at " + x.fault(1));
    }
    return x;
  }

  private static final String TWO = "course 10;bearer a at 0 pace 3;bearer b at 5 pace 4;"
      + "house h at 2 care 20;house k at 9 care 45;wanes strength-run;";
  // By each bearer but a it comes through sooner; each hour costs 5.
  private static final String THREE = "course 12;bearer a at 0 pace 1;bearer b at 3 pace 4;"
      + "bearer c at 6 pace 2;dark 40;wanes strength-5;";

  public static void main(String[] args) {
    later();
    howAnHourGoes();
    formulas();
    through();
    few();
    post();
    change();
    least();
    odds();
    nothingIsChanged();
    atTheLastHour();
    if (wrong != 0) {
      System.exit(1);
    }
  }

  private static void row(PassedDark x, int n, int... all) {
    for (int what = 0; what < 4; what++) {
      due("later(" + n + "," + what + ")", x.later(n, what), all[what]);
    }
  }

  private static void later() {
    PassedDark x = course(TWO);
    row(x, 0, 0, 50, 0, 0);
    row(x, 1, 3, 47, 0, 1);
    row(x, 2, 5, 45, 1, 1);
    row(x, 3, 9, 41, 1, 3);
    row(x, 4, 10, 40, 1, 3);
    row(x, 60, 10, 40, 1, 3);
    row(x, 61, -1, -1, -1, -1);
    row(x, -1, -1, -1, -1, -1);
    due("later(1,4)", x.later(1, 4), -1);
    due("later(1,-1)", x.later(1, -1), -1);
    x.hours(2);
    row(x, 1, 9, 41, 1, 3);
    PassedDark nobody = course("course 9;");
    row(nobody, 9, 0, 50, -1, 0);
    PassedDark out = course("course 9;bearer a at 0 pace 2;wanes 0;");
    row(out, 3, 2, 0, 0, 0);
  }

  private static void howAnHourGoes() {
    PassedDark x = course("course 20;bearer a at 0 pace 9;bearer b at 6 pace 2;bearer c at 4 pace 3;"
        + "bearer d at 4 pace 1;bearer e at 0 pace 9;takes pace<3;wanes strength-handed-2*run-pace;");
    // c at 4 does not take it, d there does; a has run 4 miles.
    row(x, 1, 4, 50 - 1 - 8 - 9, 3, 0);
    x.aside(3, 1);
    row(x, 1, 6, 50 - 1 - 12 - 9, 1, 0);
    x.aside(1, 1);
    row(x, 1, 9, 50 - 18 - 9, 0, 0);
    x.aside(3, 0);
    x.aside(1, 0);
    x.hours(1);
    due("bearer(0,0), who has handed it over, stays there", x.bearer(0, 0), 4);
    x.hours(1);
    due("bearer(0,0)", x.bearer(0, 0), 4);
    due("bearer(3,0)", x.bearer(3, 0), 5);
    PassedDark alike = course("course 20;bearer a at 0 pace 9;bearer b at 4 pace 2;bearer c at 4 pace 3;");
    row(alike, 1, 4, 50, 1, 0);
    due("later(2,2): c waits where it was", alike.later(2, 2), 1);
    PassedDark back = course("course 20;bearer a at 0 pace 9;bearer b at 4 pace 2;wanes strength-5;");
    back.hours(1);
    back.place(0, 5);
    row(back, 1, 5, 40, 0, 0);
    PassedDark last = course("course 5;bearer a at 0 pace 3;bearer b at 5 pace 9;house h at 5 care 50;"
        + "wanes strength-run-10*handed;");
    row(last, 2, 5, 50 - 3 - 2 - 10, 1, 0);
    due("through() by one who takes it there", last.through(), 2);
  }

  private static void formulas() {
    due("wanes above 99", course("course 9;bearer a at 0 pace 1;wanes 100;").later(1, 1), 99);
    due("wanes below 0", course("course 9;bearer a at 0 pace 1;wanes 1-2;").later(1, 1), 0);
    due("without wanes, strength-light where it came to",
        course("course 9;bearer a at 0 pace 4;light mile+hour;").later(2, 1), 50 - 4 - 9);
    due("/ of a negative number", of("0-7/2*1+20"), 17);
    due("/ of a negative sum", of("(0-7)/2+20"), 16);
    due("/ by a negative number", of("7/(0-2)+20"), 16);
    due("/ of two negative numbers", of("(0-7)/(0-2)+20"), 23);
    due("/ by 0", of("7/0+20"), 20);
    due("from the left on", of("20-7-3"), 10);
    due("/ and * from the left on", of("7/2*4"), 12);
    due("* ahead of +", of("2+3*4"), 14);
    due("( )", of("(2+3)*4"), 20);
    due("min and max", of("min(7,max(3,5))+max(20,min(1,2))"), 25);
    due("products held", of("(9999*9999-9999*100)/10"), 10);
    due("products held below", of("((0-9999)*9999+9999*100+120)/2"), 10);
    due("sums held", of("1000*1000+5-9999*100-90"), 10);
    due("differences held", of("0-1000*1000-7+9999*100+110"), 10);
    due("hour", course("course 99;bearer a at 0 pace 1;wanes hour+1;").later(5, 1), 5);
    due("and ahead of or", taken("1=1 or 1=2 and 1=2"), 1);
    due("[ ]", taken("[1=1 or 1=2] and 1=2"), 0);
    due("not of its FACT alone", taken("not 1=2 and 1=1"), 1);
    due("not of [ ]", taken("not [1=2 or 1=1]"), 0);
    due("not not", taken("not not all"), 1);
    due("<", taken("1<1 or 2<1"), 0);
    due(">", taken("1>1 or 1>2"), 0);
    due("< holds", taken("1<2"), 1);
    due("> holds", taken("2>1"), 1);
  }

  private static int of(String sum) {
    return course("course 99;bearer a at 0 pace 1;wanes " + sum + ";").later(1, 1);
  }

  private static int taken(String test) {
    return course("course 99;bearer a at 0 pace 1;takes " + test + ";").bearer(0, 3);
  }

  private static void through() {
    due("through()", course(TWO).through(), 4);
    due("through() without bearers", course("course 5;").through(), -1);
    due("through() when it goes out", course("course 5;bearer a at 0 pace 1;wanes strength-10;").through(), -1);
    due("through() with 1 left", course("course 5;bearer a at 0 pace 1;wanes strength-10;dark 51;").through(), 5);
    PassedDark x = course("course 60;bearer a at 0 pace 1;");
    due("through() in 60 hours", x.through(), 60);
    x = course("course 61;bearer a at 0 pace 1;");
    due("through() in 61 hours", x.through(), -1);
    x.hours(1);
    due("through() in 60 more", x.through(), 60);
    x.hours(60);
    due("through() now", x.through(), 0);
    x.kindle(0);
    due("through(), out there", x.through(), -1);
  }

  private static void few() {
    PassedDark x = course(THREE);
    due("through() by all", x.through(), 7);
    due("few()", x.few(), 2);
    x.aside(1, 1);
    due("few() without b", x.few(), -1);
    x.aside(1, 0);
    due("few() of one who is enough alone", course(TWO).few(), 0);
    due("few() without bearers", course("course 9;").few(), -1);
    due("few() when all are not enough", course("course 9;bearer a at 0 pace 1;bearer b at 5 pace 1;wanes 0;").few(), -1);
    due("few() of two needed", course("course 9;bearer a at 0 pace 1;bearer b at 2 pace 1;"
        + "bearer c at 5 pace 1;bearer d at 4 pace 1;dark 6;wanes strength-1+handed*2;").few(), 2 + 4);
    due("few() of like ones the least bits", course("course 9;bearer a at 0 pace 1;bearer b at 2 pace 1;"
        + "bearer c at 5 pace 1;bearer d at 4 pace 1;dark 8;wanes strength-1+handed*2;").few(), 2);
    due("few() of one rather than two", course("course 9;bearer a at 0 pace 1;bearer b at 2 pace 2;"
        + "bearer c at 3 pace 2;bearer d at 1 pace 9;dark 5;wanes strength-1+handed;").few(), 8);
    due("few() with bearer 0 needed", course("course 9;bearer a at 4 pace 9;bearer b at 0 pace 2;"
        + "bearer c at 3 pace 1;dark 4;wanes strength-1;").few(), 1);
    due("few() with bearer 0 in the way", course("course 9;bearer a at 4 pace 1;bearer b at 0 pace 2;"
        + "bearer c at 3 pace 9;dark 6;wanes strength-1;").few(), 0);
    PassedDark through = course(THREE);
    through.kindle(99);
    through.hours(20);
    due("few() when it is through", through.few(), 0);
  }

  private static void post() {
    PassedDark x = course(TWO);
    due("post(1,0), of like ones the least", x.post(1, 0), 0);
    due("post(1,1)", x.post(1, 1), 40);
    due("post(0,0), who has it", x.post(0, 0), -1);
    due("post(0,1), who has it", x.post(0, 1), -1);
    due("post(2,0)", x.post(2, 0), -1);
    due("post(-1,0)", x.post(-1, 0), -1);
    due("post(1,2)", x.post(1, 2), -1);
    due("post(1,-1)", x.post(1, -1), -1);
    x = course(THREE);
    due("post(1,0)", x.post(1, 0), 1);
    due("post(1,1)", x.post(1, 1), 10);
    due("post(2,0)", x.post(2, 0), 1);
    due("post(2,1)", x.post(2, 1), 15);
    x.aside(1, 1);
    due("post(1,0), aside: it does not come through", x.post(1, 0), -1);
    due("post(1,1)", x.post(1, 1), -1);
    due("post(2,0)", x.post(2, 0), 1);
    due("post(2,1): 7 hours", x.post(2, 1), 5);
    PassedDark one = course("course 9;bearer a at 0 pace 9;bearer b at 0 pace 9;dark 2;wanes strength-1;");
    due("post(1,0) with 1 left", one.post(1, 0), 0);
    due("post(1,1) with 1 left", one.post(1, 1), 1);
    PassedDark last = course("course 9;bearer a at 0 pace 9;bearer b at 0 pace 9;wanes strength-2+handed;");
    due("post(1,0)", last.post(1, 0), 9);
    due("post(1,1)", last.post(1, 1), 49);
  }

  private static void change() {
    PassedDark x = course(THREE);
    due("change(0), none is as good", x.change(0), -1);
    due("change(1)", x.change(1), -1);
    due("change(2)", x.change(2), 5);
    due("change(3)", x.change(3), -1);
    due("change(-1)", x.change(-1), -1);
    x = course("course 12;bearer a at 0 pace 1;bearer b at 3 pace 2;bearer c at 10 pace 6;dark 40;wanes strength-5;");
    due("through()", x.through(), -1);
    due("change(0)", x.change(0), 1);
    due("change(1)", x.change(1), 2);
    due("change(2)", x.change(2), 10);
    x.aside(1, 1);
    due("change(2) with one aside", x.change(2), 15);
    x.aside(2, 1);
    due("change(0) with both aside", x.change(0), -1);
    due("change(2) with both aside", x.change(2), 0);
    x = course("course 9;bearer b at 3 pace 1;bearer a at 0 pace 9;bearer c at 2 pace 1;bearer d at 9 pace 1;"
        + "bearer e at 9 pace 1;takes pace<9 and far<4;wanes strength-1;");
    // Three miles to b, or two to c, then one each; no change makes it less.
    due("change(0)", x.change(0), -1);
    PassedDark one = course("course 9;bearer a at 0 pace 1;wanes strength-9;");
    due("change(2) of one who goes out", one.change(2), 0);
    due("change(0)", one.change(0), -1);
    PassedDark slow = course("course 99;bearer a at 0 pace 1;bearer b at 5 pace 9;bearer c at 70 pace 1;"
        + "wanes strength-handed*10;");
    due("through()", slow.through(), 42);
    due("change(0): the other way it does not come through in 60", slow.change(0), -1);
    due("change(2)", slow.change(2), 30);
    PassedDark zero = course("course 12;bearer c at 10 pace 6;bearer a at 0 pace 1;bearer b at 3 pace 2;dark 40;wanes strength-5;");
    due("change(0) of bearer 0", zero.change(0), 0);
    due("change(1) of bearer 0", zero.change(1), 2);
    due("change(2) of bearer 0", zero.change(2), 10);
    // With d at 1 it takes 6 hours; with c there and d at 5 it would take 4, but those are three.
    PassedDark three = course("course 20;bearer a at 0 pace 1;bearer b at 1 pace 1;bearer c at 5 pace 4;"
        + "bearer d at 20 pace 9;wanes strength-1;");
    due("through() of three", three.through(), 9);
    due("change(0) of three", three.change(0), 1);
    due("change(1) of three", three.change(1), 3);
    due("change(2) of three", three.change(2), 50 - 6);
    PassedDark pairs = course("course 9;bearer a at 0 pace 1;bearer b at 9 pace 9;bearer c at 1 pace 1;"
        + "bearer d at 1 pace 1;wanes strength-1;");
    due("change(0), of like ones the first", pairs.change(0), 1);
    due("change(1), of like ones the first", pairs.change(1), 2);
    due("change(2)", pairs.change(2), 48);
  }

  private static void least() {
    due("least()", course(TWO).least(), 11);
    PassedDark x = course(THREE);
    due("least()", x.least(), 36);
    x.kindle(1);
    due("least() of a weaker one", x.least(), 36);
    due("least() of 1", course("course 9;bearer a at 0 pace 1;").least(), 1);
    due("least() of 99", course("course 7;bearer a at 0 pace 1;wanes strength-14;").least(), 99);
    due("least() when 99 is not enough", course("course 7;bearer a at 0 pace 1;wanes strength-15;").least(), -1);
    due("least() without bearers", course("course 7;").least(), -1);
    PassedDark out = course("course 5;bearer a at 5 pace 1;wanes 0;");
    out.kindle(0);
    due("least() at the last mile", out.least(), 1);
  }

  private static void odds() {
    due("odds() without trip", course(TWO).odds(), 1000);
    PassedDark x = course(TWO + "trip 40;");
    due("odds()", x.odds(), 1000);
    x.kindle(5);
    due("odds() of 5, less 3", x.odds(), 600 + 40 * 2);
    x.kindle(4);
    due("odds() of 4, less 3", x.odds(), 600 + 40);
    x.kindle(3);
    due("odds() of 3, less 3", x.odds(), 0);
    x.kindle(12);
    due("odds() of 12", x.odds(), 600 + 40 * 9);
    x.kindle(0);
    due("odds() when it is out", x.odds(), 0);
    due("odds() of trip 100", course(TWO + "trip 100;dark 8;").odds(), 500);
    due("odds() without bearers", course("course 9;trip 10;dark 4;").odds(), 900 + 10 * 4);
    PassedDark through = course(TWO + "trip 10;");
    through.hours(20);
    through.kindle(5);
    due("odds() when it is through", through.odds(), 900 + 10 * 5);
  }

  private static void nothingIsChanged() {
    PassedDark x = course(THREE);
    x.hours(1);
    x.aside(2, 1);
    x.later(60, 0);
    x.through();
    x.few();
    x.post(1, 0);
    x.post(2, 1);
    x.change(2);
    x.least();
    x.odds();
    int[] has = {12, 3, 0, 1, 1, 35, 0, 0, 0, 1, 0, 2};
    for (int what = 0; what < has.length; what++) {
      due("has(" + what + ") behind all that is ahead", x.has(what), has[what]);
    }
    int[] miles = {1, 3, 6};
    for (int b = 0; b < 3; b++) {
      due("bearer(" + b + ",0)", x.bearer(b, 0), miles[b]);
      due("bearer(" + b + ",2)", x.bearer(b, 2), b == 2 ? 1 : 0);
    }
  }

  private static void atTheLastHour() {
    PassedDark x = course("course 99;bearer a at 98 pace 1;bearer b at 0 pace 1;");
    x.kindle(0);
    x.place(0, 0);
    for (int i = 0; i < 9; i++) {
      x.hours(100);
    }
    x.hours(98);
    x.kindle(50);
    due("has(3)", x.has(3), 998);
    due("later(1,0)", x.later(1, 0), 1);
    due("later(2,0), beyond hour 999", x.later(2, 0), -1);
    due("through()", x.through(), -1);
    due("odds()", x.odds(), 1000);
    x.hours(1);
    due("later(0,0)", x.later(0, 0), 1);
    due("later(1,0)", x.later(1, 0), -1);
    due("odds() at hour 999", x.odds(), -1);
    PassedDark near = course("course 5;bearer a at 0 pace 1;bearer b at 1 pace 1;wanes strength;");
    near.kindle(0);
    for (int i = 0; i < 9; i++) {
      near.hours(100);
    }
    near.hours(95);
    near.kindle(50);
    due("through() just beyond", near.through(), -1);
    due("least() just beyond", near.least(), -1);
    near.undo();
    near.undo();
    near.hours(94);
    near.kindle(50);
    due("has(3)", near.has(3), 994);
    due("through() at hour 999", near.through(), 5);
    near.hours(5);
    due("through() at hour 999", near.through(), 0);
    due("few() at hour 999", near.few(), 0);
    due("least() at hour 999", near.least(), 1);
    due("change(2) at hour 999", near.change(2), 50);
    due("post(0,1) at hour 999", near.post(0, 1), 50);
  }
}
