/** Promises 19 to 21: rows seen, the strengths left by them, what tells most. */
public final class SeenTest {
  private static int wrong = 0;

  private static void due(String call, long got, long want) {
    if (got != want) {
      wrong++;
      System.out.println("seen: " + call + " answered " + got + ", due is " + want);
    }
  }

  private static void feed(PassedDark x, int... bytes) {
    for (int at = 0; at < bytes.length; at += 20) {
      int[] five = new int[5];
      for (int i = 0; i < 20; i++) {
        five[i / 4] = five[i / 4] << 8 | (at + i < bytes.length ? bytes[at + i] & 255 : 32);
      }
      x.feed(five[0], five[1], five[2], five[3], five[4]);
    }
    x.end(bytes.length);
  }

  private static PassedDark course(String text) {
    PassedDark x = new PassedDark();
    feed(x, text.chars().toArray());
    if (x.course() < 1) {
      wrong++;
      System.out.println("seen: no course by " + text + ": " + x.fault(0) + " at " + x.fault(1));
    }
    return x;
  }

  // h is passed in the first hour from 20 on, k in the third from 50 on (5 miles are run by then).
  private static final String TWO = "course 10;bearer a at 0 pace 3;bearer b at 5 pace 4;"
      + "house h at 2 care 20;house k at 9 care 45;wanes strength-run;";

  private static void see(PassedDark x, int due, int... bytes) {
    int refused = x.status(1);
    int rows = x.has(10);
    feed(x, bytes);
    due("see() of " + bytes.length + " bytes", x.see(), due);
    due("status(1)", x.status(1), due == -1 ? refused + 1 : refused);
    due("has(10)", x.has(10), due == -1 ? rows : due);
    due("end(1), the tape has gone", x.end(1) ? 1 : 0, 0);
  }

  private static void left(PassedDark x, int least, int most) {
    int count = most - least + 1;
    due("strengths(-1)", x.strengths(-1), count);
    if (count > 0) {
      due("strengths(0)", x.strengths(0), least);
      due("strengths(" + (count - 1) + ")", x.strengths(count - 1), most);
    }
    due("strengths(" + count + ")", x.strengths(count), -1);
    due("strengths(-2)", x.strengths(-2), -1);
  }

  private static void tells(PassedDark x, int hours, int house, int most) {
    due("tells(0)", x.tells(0), hours);
    due("tells(1)", x.tells(1), house);
    due("tells(2)", x.tells(2), most);
    due("tells(3)", x.tells(3), -1);
    due("tells(-1)", x.tells(-1), -1);
  }

  public static void main(String[] args) {
    rowsSeen();
    noRows();
    strengths();
    actsChangeThem();
    telling();
    lastHours();
    if (wrong != 0) {
      System.exit(1);
    }
  }

  private static void rowsSeen() {
    PassedDark x = course(TWO);
    see(x, 1, 0, 0, 0);
    see(x, 2, 30, 1, 1, 0, 0, 0);
    int[] most = new int[48];
    see(x, 16, most);
    x.hours(1);
    due("has(10) stays in hours", x.has(10), 16);
    x.undo();
    due("has(10) stays undone", x.has(10), 16);
    see(x, 1, 1, 0, 1);
    left(x, 20, 99);
  }

  private static void noRows() {
    PassedDark x = course(TWO);
    see(x, 1, 1, 0, 1);
    see(x, -1);
    see(x, -1, 1);
    see(x, -1, 1, 0);
    see(x, -1, 1, 0, 0, 1);
    see(x, -1, 31, 0, 0);
    see(x, -1, 255, 0, 0);
    see(x, -1, 1, 2, 0);
    see(x, -1, 1, 255, 0);
    see(x, -1, 1, 0, 2);
    see(x, -1, 1, 0, 255);
    see(x, -1, 1, 0, 0, 1, 0, 0, 1, 2, 0);
    see(x, -1, 1, 0, 0, 31, 0, 0);
    see(x, -1, 1, 0, 0, 1, 0, 2);
    see(x, -1, new int[51]);
    left(x, 20, 99);
    see(course("course 9;bearer a at 0 pace 1;"), -1, 0, 0, 0);
    due("fault(0) is not of see()", x.fault(0), 0);
    PassedDark y = course(TWO);
    see(y, 1, 1, 0, 1);
    feed(y, TWO.chars().toArray());
    y.course();
    due("has(10) of a new course", y.has(10), 0);
    left(y, 0, 99);
  }

  private static void strengths() {
    PassedDark x = course(TWO);
    left(x, 0, 99);
    see(x, 1, 1, 0, 1);
    left(x, 20, 99);
    see(x, 1, 1, 0, 0);
    left(x, 0, 19);
    see(x, 1, 2, 1, 1);
    left(x, 0, -1);
    see(x, 1, 3, 1, 1);
    left(x, 50, 99);
    see(x, 2, 1, 0, 1, 30, 1, 0);
    left(x, 20, 49);
    see(x, 2, 30, 1, 0, 1, 0, 1);
    left(x, 20, 49);
    see(x, 3, 30, 1, 0, 30, 1, 0, 1, 0, 1);
    left(x, 20, 49);
    see(x, 2, 1, 0, 1, 5, 0, 0);
    left(x, 0, -1);
    see(x, 1, 0, 0, 1);
    left(x, 0, -1);
    see(x, 1, 0, 0, 0);
    left(x, 0, 99);
    PassedDark two = course("course 9;bearer a at 0 pace 1;house h at 2 care 50;wanes 99-strength;");
    see(two, 1, 2, 0, 1);
    // The dark is 99-s in the second hour; 0 and 99 are out by then or at once.
    left(two, 1, 49);
  }

  private static void actsChangeThem() {
    PassedDark x = course(TWO);
    see(x, 1, 1, 0, 1);
    x.kindle(3);
    left(x, 20, 99);
    x.hours(1);
    due("house(0,2)", x.house(0, 2), 0);
    left(x, 0, -1);
    x.undo();
    x.kindle(30);
    x.hours(1);
    due("house(0,2)", x.house(0, 2), 1);
    left(x, 0, 99);
  }

  private static void telling() {
    PassedDark x = course(TWO);
    tells(x, 3, 1, 50);
    see(x, 1, 3, 1, 1);
    tells(x, 1, 0, 50);
    see(x, 1, 3, 1, 0);
    tells(x, 1, 0, 30);
    see(x, 1, 0, 1, 1);
    tells(x, -1, -1, -1);
    tells(course("course 9;bearer a at 0 pace 1;"), -1, -1, -1);
    PassedDark alike = course("course 9;bearer a at 0 pace 1;house h at 2 care 30;house k at 2 care 70;wanes strength;");
    // 70 by 30 either way, in the second hour and later.
    tells(alike, 2, 0, 70);
    PassedDark one = course("course 9;bearer a at 0 pace 1;house h at 1 care 98;house k at 2 care 98;wanes strength-1;");
    see(one, 2, 1, 0, 1, 2, 1, 0);
    left(one, 98, 98);
    tells(one, 1, 0, 1);
    PassedDark passed = course("course 9;bearer a at 0 pace 1;house h at 1 care 1;");
    passed.hours(1);
    tells(passed, 1, 0, 100);
    PassedDark nobody = course("course 9;house h at 2 care 50;");
    tells(nobody, 1, 0, 100);
    PassedDark far = course("course 40;bearer a at 0 pace 1;house h at 30 care 50;house k at 31 care 50;wanes strength;");
    tells(far, 30, 0, 50);
    PassedDark beyond = course("course 40;bearer a at 0 pace 1;house h at 31 care 50;wanes strength;");
    tells(beyond, 1, 0, 100);
  }

  private static void lastHours() {
    PassedDark x = course("course 40;bearer a at 0 pace 1;house h at 2 care 50;wanes strength;");
    x.kindle(0);
    for (int i = 0; i < 9; i++) {
      x.hours(100);
    }
    x.hours(97);
    due("has(3)", x.has(3), 997);
    tells(x, 2, 0, 50);
    see(x, 1, 2, 0, 1);
    left(x, 50, 99);
    see(x, 1, 3, 0, 1);
    left(x, 0, -1);
    see(x, 1, 3, 0, 0);
    left(x, 0, -1);
    tells(x, -1, -1, -1);
    see(x, 1, 1, 0, 0);
    left(x, 0, 99);
    tells(x, 2, 0, 50);
    x.hours(1);
    tells(x, 1, 0, 100);
    x.hours(1);
    left(x, 0, -1);
    see(x, 1, 0, 0, 0);
    left(x, 0, 99);
    tells(x, -1, -1, -1);
  }
}
