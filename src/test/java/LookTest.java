/** Promises 6 to 11: what there is, names, bearers, houses, light, what is kept. */
public final class LookTest {
  private static int wrong = 0;

  private static void due(String call, long got, long want) {
    if (got != want) {
      wrong++;
      System.out.println("look: " + call + " answered " + got + ", due is " + want);
    }
  }

  private static PassedDark course(String text) {
    PassedDark x = new PassedDark();
    for (int at = 0; at < text.length(); at += 20) {
      int[] five = new int[5];
      for (int i = 0; i < 20; i++) {
        five[i / 4] = five[i / 4] << 8 | (at + i < text.length() ? text.charAt(at + i) & 255 : 32);
      }
      x.feed(five[0], five[1], five[2], five[3], five[4]);
    }
    x.end(text.length());
    if (x.course() < 1) {
      wrong++;
      System.out.println("look: no course by " + text + ": " + x.fault(0) + " at " + x.fault(1));
    }
    return x;
  }

  private static void has(PassedDark x, String when, int... all) {
    for (int what = 0; what < all.length; what++) {
      due("has(" + what + ") " + when, x.has(what), all[what]);
    }
    due("has(12) " + when, x.has(12), -1);
    due("has(-1) " + when, x.has(-1), -1);
  }

  public static void main(String[] args) {
    howMany();
    whoHasItAtFirst();
    letters();
    bearers();
    houses();
    light();
    kept();
    theLastForty();
    if (wrong != 0) {
      System.exit(1);
    }
  }

  private static void howMany() {
    PassedDark x = course("course 10;bearer a at 1 pace 3;bearer b at 6 pace 4;"
        + "house h at 2 care 20;house k at 10 care 60;house l at 9 care 1;wanes strength-run;");
    has(x, "at first", 10, 2, 3, 0, 1, 50, 0, 0, 0, 0, 0, 0);
    x.hours(1);
    has(x, "behind an hour", 10, 2, 3, 1, 4, 47, 0, 1, 0, 1, 0, 1);
    x.hours(1);
    has(x, "where it was handed over", 10, 2, 3, 2, 6, 45, 1, 1, 0, 2, 0, 2);
    x.hours(5);
    has(x, "when it is through", 10, 2, 3, 7, 10, 41, 1, 2, 1, 3, 0, 3);
    x.kindle(0);
    has(x, "when it is out there", 10, 2, 3, 7, 10, 0, 1, 2, 0, 3, 0, 4);
  }

  private static void whoHasItAtFirst() {
    PassedDark nobody = course("course 7;house h at 0 care 0;dark 9;");
    has(nobody, "without bearers", 7, 0, 1, 0, 0, 9, -1, 0, 0, 0, 0, 0);
    nobody.hours(3);
    has(nobody, "without bearers behind hours", 7, 0, 1, 3, 0, 9, -1, 0, 0, 0, 0, 1);
    PassedDark alike = course("course 7;bearer a at 5 pace 1;bearer b at 2 pace 1;bearer c at 2 pace 1;");
    has(alike, "of like miles", 7, 3, 0, 0, 2, 50, 1, 0, 0, 0, 0, 0);
    PassedDark there = course("course 7;bearer a at 7 pace 1;");
    has(there, "at the last mile", 7, 1, 0, 0, 7, 50, 0, 0, 1, 0, 0, 0);
    due("through at once", there.through(), 0);
  }

  private static void letters() {
    PassedDark x = course("course 9;bearer abcdef at 0 pace 1;bearer z at 0 pace 1;house my at 0 care 1;");
    for (int k = 0; k < 6; k++) {
      due("letter of six", x.letter(0, 0, k), k + 1);
      due("letter of one", x.letter(0, 1, k), k == 0 ? 26 : 0);
      due("letter of two", x.letter(1, 0, k), k == 0 ? 13 : k == 1 ? 25 : 0);
    }
    PassedDark houses = course("course 9;house a at 0 care 1;house bc at 0 care 1;bearer d at 1 pace 1;");
    due("letter(1,1,0)", houses.letter(1, 1, 0), 2);
    due("letter(1,1,1)", houses.letter(1, 1, 1), 3);
    due("letter(1,1,2)", houses.letter(1, 1, 2), 0);
    due("letter(0,0,6)", x.letter(0, 0, 6), -1);
    due("letter(0,0,-1)", x.letter(0, 0, -1), -1);
    due("letter(0,2,0)", x.letter(0, 2, 0), -1);
    due("letter(0,-1,0)", x.letter(0, -1, 0), -1);
    due("letter(1,1,0)", x.letter(1, 1, 0), -1);
    due("letter(1,-1,5)", x.letter(1, -1, 5), -1);
    due("letter(2,0,0)", x.letter(2, 0, 0), -1);
    due("letter(-1,0,0)", x.letter(-1, 0, 0), -1);
    due("letter(most)", x.letter(0, Integer.MAX_VALUE, 0), -1);
  }

  private static void bearers() {
    PassedDark x = course("course 20;bearer a at 2 pace 3;bearer b at 9 pace 4;bearer c at 4 pace 9;"
        + "light mile-hour;takes far<6 and light>1 and pace<9 and strength>40;");
    int[][] all = {{2, 3, 0, 1}, {9, 4, 0, 0}, {4, 9, 0, 0}};
    for (int b = 0; b < 3; b++) {
      for (int what = 0; what < 4; what++) {
        due("bearer(" + b + "," + what + ")", x.bearer(b, what), all[b][what]);
      }
    }
    due("bearer(0,4)", x.bearer(0, 4), -1);
    due("bearer(0,-1)", x.bearer(0, -1), -1);
    due("bearer(3,0)", x.bearer(3, 0), -1);
    due("bearer(-1,0)", x.bearer(-1, 0), -1);
    x.place(1, 7);
    due("bearer(1,0) placed", x.bearer(1, 0), 7);
    due("bearer(1,3): far 5, light 7", x.bearer(1, 3), 1);
    x.aside(1, 1);
    due("bearer(1,2) aside", x.bearer(1, 2), 1);
    due("bearer(1,3) aside", x.bearer(1, 3), 1);
    x.kindle(40);
    due("bearer(1,3), strength 40", x.bearer(1, 3), 0);
    x.kindle(41);
    x.place(1, 0);
    due("bearer(1,3): behind it, no light", x.bearer(1, 3), 0);
    x.place(1, 7);
    x.hours(1);
    due("has(4)", x.has(4), 5);
    due("bearer(0,0) goes with it", x.bearer(0, 0), 5);
    due("bearer(1,3) in the next hour: strength 37", x.bearer(1, 3), 0);
    x.kindle(50);
    due("bearer(1,3) kindled", x.bearer(1, 3), 1);
    PassedDark hour = course("course 20;bearer a at 0 pace 1;takes hour=1;");
    due("bearer(0,3) by the hour", hour.bearer(0, 3), 0);
    hour.hours(1);
    due("bearer(0,3) in hour 1", hour.bearer(0, 3), 1);
    due("bearer(0,3) without takes", course("course 20;bearer a at 0 pace 1;").bearer(0, 3), 1);
  }

  private static void houses() {
    PassedDark x = course("course 20;bearer a at 2 pace 3;house h at 2 care 0;house k at 3 care 50;"
        + "house l at 5 care 51;house m at 5 care 50;house n at 6 care 0;");
    int[][] all = {{2, 0}, {3, 50}, {5, 51}, {5, 50}, {6, 0}};
    int[] passed = {0, 1, 0, 1, 0};
    for (int h = 0; h < 5; h++) {
      due("house(" + h + ",0)", x.house(h, 0), all[h][0]);
      due("house(" + h + ",1)", x.house(h, 1), all[h][1]);
      due("house(" + h + ",2)", x.house(h, 2), 0);
    }
    x.hours(1);
    for (int h = 0; h < 5; h++) {
      due("house(" + h + ",2) behind an hour", x.house(h, 2), passed[h]);
    }
    due("house(0,3)", x.house(0, 3), -1);
    due("house(0,-1)", x.house(0, -1), -1);
    due("house(5,0)", x.house(5, 0), -1);
    due("house(-1,2)", x.house(-1, 2), -1);
  }

  private static void light() {
    PassedDark x = course("course 9;light hour*2-mile;");
    due("light(0,0)", x.light(0, 0), 0);
    due("light(9,0), below 0", x.light(9, 0), 0);
    due("light(2,3)", x.light(2, 3), 4);
    due("light(0,4)", x.light(0, 4), 8);
    due("light(0,5), above 9", x.light(0, 5), 9);
    due("light(9,9)", x.light(9, 9), 9);
    due("light(9,8)", x.light(9, 8), 7);
    due("light(0,60)", x.light(0, 60), 9);
    due("light(0,61)", x.light(0, 61), -1);
    due("light(0,-1)", x.light(0, -1), -1);
    due("light(10,0)", x.light(10, 0), -1);
    due("light(-1,0)", x.light(-1, 0), -1);
    due("light without one", course("course 9;").light(4, 4), 0);
    x.hours(3);
    due("light(2,0) from hour 3 on", x.light(2, 0), 4);
    for (int i = 0; i < 9; i++) {
      x.hours(100);
    }
    x.hours(60);
    due("has(3)", x.has(3), 963);
    due("light(0,36)", x.light(0, 36), 9);
    due("light(0,37), beyond hour 999", x.light(0, 37), -1);
  }

  private static void kept() {
    PassedDark x = course("course 10;bearer a at 1 pace 3;bearer b at 6 pace 4;wanes strength-run;");
    due("kept(0,0) at first", x.kept(0, 0), -1);
    x.hours(1);
    x.kindle(0);
    x.hours(2);
    due("has(9): hours in which it is out are not kept", x.has(9), 1);
    x.kindle(60);
    x.hours(20);
    int[][] rows = {{0, 0, 4, 47}, {3, 0, 6, 58}, {4, 1, 10, 54}};
    due("has(9)", x.has(9), rows.length);
    for (int k = 0; k < rows.length; k++) {
      for (int what = 0; what < 4; what++) {
        due("kept(" + k + "," + what + ")", x.kept(k, what), rows[k][what]);
      }
    }
    due("kept(3,0)", x.kept(3, 0), -1);
    due("kept(-1,0)", x.kept(-1, 0), -1);
    due("kept(0,4)", x.kept(0, 4), -1);
    due("kept(0,-1)", x.kept(0, -1), -1);
    x.undo();
    due("has(9) undone", x.has(9), 1);
    due("kept(1,0) undone", x.kept(1, 0), -1);
    due("kept(0,3) stays", x.kept(0, 3), 47);
  }

  private static void theLastForty() {
    PassedDark x = course("course 99;bearer a at 0 pace 1;wanes strength;");
    x.hours(40);
    due("has(9)", x.has(9), 40);
    due("kept(0,0)", x.kept(0, 0), 0);
    x.hours(1);
    due("has(9)", x.has(9), 40);
    due("kept(0,0)", x.kept(0, 0), 1);
    due("kept(39,2)", x.kept(39, 2), 41);
    due("kept(40,2)", x.kept(40, 2), -1);
    x.hours(58);
    due("kept(0,0)", x.kept(0, 0), 59);
    due("kept(39,2), the last mile there can be", x.kept(39, 2), 99);
    due("hours(1)", x.hours(1), 0);
    due("kept(39,2)", x.kept(39, 2), 99);
    x.undo();
    x.undo();
    due("kept(0,0) of those ahead of an act undone", x.kept(0, 0), 1);
    x.undo();
    due("kept(0,0)", x.kept(0, 0), 0);
    due("kept(39,0)", x.kept(39, 0), 39);
  }
}
