/** Promise 1, and what each call answers ahead of a course. */
public final class NewObjectTest {
  private static int wrong = 0;

  private static void due(String call, long got, long want) {
    if (got != want) {
      wrong++;
      System.out.println("new object: " + call + " answered " + got + ", due is " + want);
    }
  }

  private static void due(String call, boolean got, boolean want) {
    due(call, got ? 1 : 0, want ? 1 : 0);
  }

  public static void main(String[] args) {
    due("NONE", PassedDark.NONE, -1);
    due("NOTHING", PassedDark.NOTHING, -1000000000000000L);
    PassedDark x = new PassedDark();
    due("octet(0) ahead of any image()", x.octet(0), -1);
    for (int what = -2; what <= 13; what++) {
      due("has(" + what + ")", x.has(what), what >= 0 && what <= 11 && what != 6 ? 0 : -1);
    }
    for (int what = -1; what <= 6; what++) {
      due("status(" + what + ")", x.status(what), what >= 0 && what <= 5 ? 0 : -1);
    }
    due("fault(0)", x.fault(0), 0);
    due("fault(1)", x.fault(1), -1);
    due("fault(2)", x.fault(2), -1);
    due("fault(-1)", x.fault(-1), -1);
    nothingIsThere(x);
    nothingIsDone(x);
    due("image()", x.image(), 6);
    int[] bytes = {0, 0, 0, 0, 255, 169};
    for (int k = 0; k < bytes.length; k++) {
      due("octet(" + k + ")", x.octet(k), bytes[k]);
    }
    due("octet(6)", x.octet(6), -1);
    due("octet(-1)", x.octet(-1), -1);
    if (wrong != 0) {
      System.exit(1);
    }
  }

  private static void nothingIsThere(PassedDark x) {
    for (int what = -1; what <= 4; what++) {
      due("letter", x.letter(0, 0, what), -1);
      due("letter", x.letter(1, 0, what), -1);
      due("bearer", x.bearer(0, what), -1);
      due("house", x.house(0, what), -1);
      due("light", x.light(0, what), -1);
      due("kept", x.kept(0, what), -1);
      due("later", x.later(0, what), -1);
      due("post", x.post(0, what), -1);
      due("change", x.change(what), -1);
      due("tells", x.tells(what), -1);
      due("strengths", x.strengths(what), -1);
    }
    due("through", x.through(), -1);
    due("few", x.few(), -1);
    due("least", x.least(), -1);
    due("odds", x.odds(), -1);
  }

  private static void nothingIsDone(PassedDark x) {
    due("place", x.place(0, 0), false);
    due("aside", x.aside(0, 1), false);
    due("kindle", x.kindle(1), false);
    due("hours", x.hours(1), -1);
    due("chance", x.chance(1), -1);
    due("undo", x.undo(), false);
    due("seed", x.seed(0), true);
    due("see", x.see(), -1);
    due("on", x.on(), false);
    due("feed", x.feed(0, 0, 0, 0, 0), 20);
    due("ask", x.ask(), PassedDark.NOTHING);
    due("end(1) behind ask(), which takes the tape", x.end(1), false);
    due("fault(0) behind ask() without a course", x.fault(0), 0);
    due("fault(1) behind ask() without a course", x.fault(1), -1);
    int[] refused = {1, 1, 3, 2, 1, 1};
    for (int what = 0; what < 6; what++) {
      due("status(" + what + ")", x.status(what), refused[what]);
    }
  }
}
