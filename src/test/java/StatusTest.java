/** Promise 33: what is refused is counted by its sort, and nothing else is. */
public final class StatusTest {
  private static int wrong = 0;

  private static void due(String call, long got, long want) {
    if (got != want) {
      wrong++;
      System.out.println("status: " + call + " answered " + got + ", due is " + want);
    }
  }

  private static void feed(PassedDark x, String text) {
    for (int at = 0; at < text.length(); at += 20) {
      int[] five = new int[5];
      for (int i = 0; i < 20; i++) {
        five[i / 4] = five[i / 4] << 8 | (at + i < text.length() ? text.charAt(at + i) & 255 : 32);
      }
      x.feed(five[0], five[1], five[2], five[3], five[4]);
    }
    x.end(text.length());
  }

  private static void counts(PassedDark x, String when, int... counts) {
    for (int what = 0; what < 6; what++) {
      due("status(" + what + ") " + when, x.status(what), counts[what]);
    }
    due("status(6)", x.status(6), -1);
    due("status(-1)", x.status(-1), -1);
    due("status(most)", x.status(Integer.MAX_VALUE), -1);
  }

  public static void main(String[] args) {
    PassedDark x = new PassedDark();
    counts(x, "at first", 0, 0, 0, 0, 0, 0);
    x.end(-1);
    x.course();
    x.see();
    x.see();
    x.place(0, 0);
    x.aside(0, 0);
    x.kindle(5);
    x.kindle(5);
    x.hours(1);
    x.chance(1);
    x.chance(1);
    x.chance(1);
    x.chance(1);
    for (int i = 0; i < 6; i++) {
      x.undo();
    }
    for (int i = 0; i < 3; i++) {
      x.seed(-1);
      x.on();
    }
    x.on();
    counts(x, "ahead of a course", 1, 3, 4, 5, 6, 7);
    feed(x, "course 9;bearer a at 0 pace 1;bearer b at 3 pace 1;house h at 2 care 1;");
    x.course();
    counts(x, "in a course", 1, 3, 4, 5, 6, 7);
    looks(x);
    counts(x, "behind looks that found none", 1, 3, 4, 5, 6, 7);
    x.place(1, 4);
    x.aside(1, 1);
    x.kindle(9);
    x.hours(1);
    x.chance(1);
    x.undo();
    x.seed(4);
    feed(x, "\u0001" + (char) 0 + (char) 0);
    x.see();
    counts(x, "behind acts that were done", 1, 3, 4, 5, 6, 7);
    for (int i = 0; i < 81; i++) {
      x.feed(1, 2, 3, 4, 5);
    }
    counts(x, "behind a full tape", 2, 3, 4, 5, 6, 7);
    if (wrong != 0) {
      System.exit(1);
    }
  }

  private static void looks(PassedDark x) {
    x.fault(9);
    x.has(99);
    x.letter(9, 9, 9);
    x.bearer(9, 9);
    x.house(9, 9);
    x.light(99, 99);
    x.kept(9, 9);
    x.later(99, 9);
    x.post(0, 0);
    x.change(9);
    x.strengths(-9);
    x.tells(9);
    x.octet(99);
    feed(x, "nothing of the kind");
    x.ask();
  }
}
