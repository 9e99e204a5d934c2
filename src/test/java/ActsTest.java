/** Promises 22 to 28: bearers placed and set aside, the dark kindled, hours, undone acts, the seed. */
public final class ActsTest {
  private static int wrong = 0;

  private static void due(String call, long got, long want) {
    if (got != want) {
      wrong++;
      System.out.println("acts: " + call + " answered " + got + ", due is " + want);
    }
  }

  private static void due(String call, boolean got, boolean want) {
    due(call, got ? 1 : 0, want ? 1 : 0);
  }

  private static void feed(PassedDark x, String text) {
    for (int at = 0; at < text.length(); at += 20) {
      int[] five = new int[5];
      for (int i = 0; i < 20; i++) {
        five[i / 4] = five[i / 4] << 8 | (at + i < text.length() ? text.charAt(at + i) & 255 : 32);
      }
      x.feed(five[0], five[1], five[2], five[3], five[4]);
    }
    x.end(text.length());
  }

  private static PassedDark course(String text) {
    PassedDark x = new PassedDark();
    feed(x, text);
    if (x.course() < 1) {
      wrong++;
      System.out.println("acts: no course by " + text + ": " + x.fault(0) + " at " + x.fault(1));
    }
    return x;
  }

  private static final String TWO = "course 10;bearer a at 0 pace 3;bearer b at 5 pace 4;"
      + "house h at 2 care 20;house k at 9 care 45;wanes strength-run;";

  public static void main(String[] args) {
    place();
    aside();
    kindle();
    hours();
    hoursToTheLast();
    chance();
    tripsAheadOfTheHour();
    draws();
    undo();
    twentyAtMost();
    seed();
    if (wrong != 0) {
      System.exit(1);
    }
  }

  private static void place() {
    PassedDark x = course(TWO);
    due("place(1,3)", x.place(1, 3), true);
    due("bearer(1,0)", x.bearer(1, 0), 3);
    due("has(11)", x.has(11), 1);
    due("place(1,10)", x.place(1, 10), true);
    due("place(1,0)", x.place(1, 0), true);
    due("has(11)", x.has(11), 3);
    due("status(2)", x.status(2), 0);
    due("place where he waits", x.place(1, 0), false);
    due("place of who has it", x.place(0, 5), false);
    due("place(1,11)", x.place(1, 11), false);
    due("place(1,-1)", x.place(1, -1), false);
    due("place(2,5)", x.place(2, 5), false);
    due("place(-1,5)", x.place(-1, 5), false);
    due("place(most,5)", x.place(Integer.MAX_VALUE, 5), false);
    due("status(2)", x.status(2), 7);
    due("has(11)", x.has(11), 3);
    due("bearer(1,0)", x.bearer(1, 0), 0);
    x.undo();
    x.place(1, 2);
    x.hours(1);
    due("has(6)", x.has(6), 1);
    due("place of who has it now", x.place(1, 9), false);
    due("place of who had it", x.place(0, 9), true);
    x.aside(0, 1);
    due("place of one aside", x.place(0, 8), true);
    due("has(4) is where it was", x.has(4), 2);
  }

  private static void aside() {
    PassedDark x = course(TWO);
    due("aside(1,0), he waits", x.aside(1, 0), false);
    due("aside(1,1)", x.aside(1, 1), true);
    due("bearer(1,2)", x.bearer(1, 2), 1);
    due("aside(1,1), he is so", x.aside(1, 1), false);
    due("aside(1,2) of one aside", x.aside(1, 2), false);
    due("aside(1,-1) of one aside", x.aside(1, -1), false);
    due("has(11)", x.has(11), 1);
    x.hours(2);
    due("has(4): nobody takes it", x.has(4), 6);
    due("aside(1,0)", x.aside(1, 0), true);
    due("bearer(1,2)", x.bearer(1, 2), 0);
    due("aside(0,1), who has it", x.aside(0, 1), false);
    due("aside(0,0), who has it", x.aside(0, 0), false);
    due("aside(1,2)", x.aside(1, 2), false);
    due("aside(1,-1)", x.aside(1, -1), false);
    due("aside(2,1)", x.aside(2, 1), false);
    due("aside(-1,1)", x.aside(-1, 1), false);
    due("status(2)", x.status(2), 10);
    due("has(11)", x.has(11), 3);
  }

  private static void kindle() {
    PassedDark x = course(TWO);
    due("kindle(50), it is that", x.kindle(50), false);
    due("kindle(100)", x.kindle(100), false);
    due("kindle(-1)", x.kindle(-1), false);
    due("status(2)", x.status(2), 3);
    due("kindle(99)", x.kindle(99), true);
    due("has(5)", x.has(5), 99);
    due("kindle(0)", x.kindle(0), true);
    due("has(5)", x.has(5), 0);
    due("hours(1), out", x.hours(1), 0);
    due("kindle(0), it is that", x.kindle(0), false);
    due("kindle(19)", x.kindle(19), true);
    due("hours(1)", x.hours(1), 3);
    due("house(0,2)", x.house(0, 2), 0);
    due("has(11)", x.has(11), 5);
    PassedDark nobody = course("course 9;");
    due("kindle(3) without bearers", nobody.kindle(3), true);
    due("has(5)", nobody.has(5), 3);
  }

  private static void hours() {
    PassedDark x = course(TWO);
    due("hours(0)", x.hours(0), -1);
    due("hours(-1)", x.hours(-1), -1);
    due("hours(101)", x.hours(101), -1);
    due("hours(most)", x.hours(Integer.MAX_VALUE), -1);
    due("status(3)", x.status(3), 4);
    due("has(11)", x.has(11), 0);
    due("hours(1)", x.hours(1), 3);
    due("hours(2): 2 miles to b, 4 by him", x.hours(2), 6);
    due("has(3)", x.has(3), 3);
    due("has(4)", x.has(4), 9);
    due("has(5)", x.has(5), 41);
    due("has(6)", x.has(6), 1);
    due("has(7)", x.has(7), 2);
    due("hours(100): the last mile", x.hours(100), 1);
    due("has(3)", x.has(3), 103);
    due("hours(1), through", x.hours(1), 0);
    due("has(3)", x.has(3), 104);
    due("has(11)", x.has(11), 4);
    due("status(3)", x.status(3), 4);
  }

  private static void hoursToTheLast() {
    PassedDark x = course("course 99;bearer a at 0 pace 1;dark 99;trip 50;");
    for (int i = 0; i < 9; i++) {
      due("hours(100)", x.hours(100), i == 0 ? 99 : 0);
    }
    due("hours(100) beyond 999", x.hours(100), -1);
    due("chance(100) beyond 999", x.chance(100), -1);
    due("hours(99)", x.hours(99), 0);
    due("has(3)", x.has(3), 999);
    due("hours(1) at hour 999", x.hours(1), -1);
    due("chance(1) at hour 999", x.chance(1), -1);
    due("status(3)", x.status(3), 4);
    due("has(3)", x.has(3), 999);
    due("has(11)", x.has(11), 10);
    due("kindle(3) at hour 999", x.kindle(3), true);
  }

  // The draws by the seed 1: x / 64 is 17242618, 5896899, 10356626, 17935980, 31797116.
  private static void chance() {
    PassedDark x = course(TWO + "trip 19;");
    due("chance(0)", x.chance(0), -1);
    due("chance(101)", x.chance(101), -1);
    due("chance(-5)", x.chance(-5), -1);
    due("status(3)", x.status(3), 3);
    due("chance(1): 18 is below 19, 9 less", x.chance(1), 1);
    due("has(5)", x.has(5), 50 - 9 - 3);
    due("chance(1): 26 is not below 19", x.chance(1), 0);
    due("has(5)", x.has(5), 50 - 9 - 5);
    due("has(3)", x.has(3), 2);
    due("has(11)", x.has(11), 2);
    due("kept(0,3)", x.kept(0, 3), 38);
    due("kept(1,2)", x.kept(1, 2), 5);
    PassedDark y = course(TWO + "trip 19;");
    due("chance(2), one act", y.chance(2), 1);
    due("has(11)", y.has(11), 1);
    due("has(5)", y.has(5), 36);
    PassedDark z = course(TWO + "trip 18;");
    due("chance(4): 18, 99, 26, 80", z.chance(4), 0);
    due("has(4)", z.has(4), 10);
    due("has(5)", z.has(5), 40);
    due("chance(1): 16 is below 18", z.chance(1), 1);
    due("no trips without trip", course(TWO).chance(100), 0);
    due("trips in all hours", course(TWO + "trip 100;").chance(100), 100);
  }

  private static void tripsAheadOfTheHour() {
    PassedDark x = course("course 10;bearer a at 0 pace 3;house h at 2 care 42;trip 19;"
        + "wanes strength+1;takes strength>41;");
    x.chance(1);
    due("house(0,2): 41 strong behind the trip", x.house(0, 2), 0);
    due("has(5)", x.has(5), 42);
    PassedDark taken = course("course 10;bearer a at 0 pace 3;bearer b at 2 pace 3;trip 19;takes strength<42;");
    taken.chance(1);
    due("has(6): he takes it by what is left of it", taken.has(6), 1);
    PassedDark out = course("course 10;bearer a at 0 pace 3;trip 19;dark 9;wanes 99;");
    due("chance(1)", out.chance(1), 1);
    due("has(4): it is out ahead of the hour", out.has(4), 0);
    due("has(5)", out.has(5), 0);
    due("has(9)", out.has(9), 0);
    due("has(3)", out.has(3), 1);
    PassedDark weak = course("course 10;bearer a at 0 pace 3;trip 19;dark 4;");
    weak.chance(1);
    due("has(5) is not below 0", weak.has(5), 0);
    PassedDark nobody = course("course 10;trip 19;");
    nobody.chance(1);
    due("has(5) without bearers", nobody.has(5), 41);
  }

  private static void draws() {
    // By the recurrence, told here once more: how many trips and how strong in the end.
    for (int seed : new int[] {0, 1, 2, 77, 65535, 1 << 30, Integer.MAX_VALUE}) {
      PassedDark x = course("course 99;bearer a at 99 pace 1;dark 99;trip 7;");
      x.seed(seed);
      long s = seed;
      int trips = 0;
      int strength = 99;
      for (int i = 0; i < 100; i++) {
        s = (1103515245L * s + 12345L) % (1L << 31);
        if (s / 64 % 100 < 7) {
          trips++;
          s = (1103515245L * s + 12345L) % (1L << 31);
          strength = Math.max(0, strength - (int) (s / 64 % 10));
        }
      }
      due("chance(100) by " + seed, x.chance(100), trips);
      due("has(5) by " + seed, x.has(5), strength);
    }
  }

  private static void undo() {
    PassedDark x = course(TWO + "trip 100;");
    due("undo() of nothing", x.undo(), false);
    due("status(4)", x.status(4), 1);
    x.place(1, 2);
    x.aside(1, 1);
    x.kindle(60);
    x.hours(2);
    x.aside(1, 0);
    x.chance(3);
    due("has(11)", x.has(11), 6);
    due("undo() of chance", x.undo(), true);
    due("has(3)", x.has(3), 2);
    due("has(4)", x.has(4), 6);
    due("has(9)", x.has(9), 2);
    due("undo() of aside", x.undo(), true);
    due("bearer(1,2)", x.bearer(1, 2), 1);
    due("has(11)", x.has(11), 4);
    due("undo() of hours", x.undo(), true);
    due("has(3)", x.has(3), 0);
    due("has(4)", x.has(4), 0);
    due("has(5)", x.has(5), 60);
    due("has(7)", x.has(7), 0);
    due("has(9)", x.has(9), 0);
    due("bearer(0,0)", x.bearer(0, 0), 0);
    due("undo() of kindle", x.undo(), true);
    due("has(5)", x.has(5), 50);
    due("undo() of aside", x.undo(), true);
    due("bearer(1,2)", x.bearer(1, 2), 0);
    due("undo() of place", x.undo(), true);
    due("bearer(1,0)", x.bearer(1, 0), 5);
    due("has(11)", x.has(11), 0);
    due("undo() of nothing more", x.undo(), false);
    due("status(4)", x.status(4), 2);
    PassedDark handed = course(TWO);
    handed.hours(3);
    due("has(6)", handed.has(6), 1);
    handed.undo();
    due("has(6) undone", handed.has(6), 0);
    due("bearer(1,0) undone", handed.bearer(1, 0), 5);
    handed.hours(2);
    handed.aside(0, 1);
    handed.hours(1);
    due("has(7)", handed.has(7), 2);
    handed.undo();
    due("has(6) undone to b", handed.has(6), 1);
    due("has(7) undone", handed.has(7), 1);
    due("house(0,2) undone", handed.house(0, 2), 1);
    due("house(1,2) undone", handed.house(1, 2), 0);
    due("bearer(0,2) undone", handed.bearer(0, 2), 1);
    due("bearer(0,0) undone", handed.bearer(0, 0), 5);
    handed.undo();
    handed.kindle(3);
    handed.undo();
    due("has(6) undone, nobody aside", handed.has(6), 1);
    due("has(5) undone", handed.has(5), 45);
    due("bearer(0,2) undone", handed.bearer(0, 2), 0);
  }

  private static void twentyAtMost() {
    PassedDark x = course("course 99;bearer a at 0 pace 1;");
    for (int i = 1; i <= 25; i++) {
      x.hours(1);
      due("has(11)", x.has(11), Math.min(i, 20));
    }
    for (int i = 1; i <= 20; i++) {
      due("undo()", x.undo(), true);
      due("has(4)", x.has(4), 25 - i);
      due("has(9)", x.has(9), 25 - i);
    }
    due("undo() of the 21st", x.undo(), false);
    due("has(3)", x.has(3), 5);
    x.hours(2);
    x.kindle(3);
    due("has(11)", x.has(11), 2);
    due("undo()", x.undo(), true);
    due("has(5)", x.has(5), 50);
    due("undo()", x.undo(), true);
    due("has(4)", x.has(4), 5);
    due("undo()", x.undo(), false);
  }

  private static void seed() {
    PassedDark x = course(TWO + "trip 19;");
    due("seed(-1)", x.seed(-1), false);
    due("seed(least)", x.seed(Integer.MIN_VALUE), false);
    due("status(5)", x.status(5), 2);
    due("the seed is 1 at first", x.chance(1), 1);
    due("has(5)", x.has(5), 38);
    x.undo();
    due("the seed stays undone: 26", x.chance(1), 0);
    x.undo();
    due("seed(1)", x.seed(1), true);
    due("has(11): a seed is no act", x.has(11), 0);
    due("chance(1)", x.chance(1), 1);
    x.undo();
    due("seed(0)", x.seed(0), true);
    due("chance(1): 12345/64 is 192, 92", x.chance(1), 0);
    x.undo();
    due("seed(most)", x.seed(Integer.MAX_VALUE), true);
    due("status(5)", x.status(5), 2);
  }
}
