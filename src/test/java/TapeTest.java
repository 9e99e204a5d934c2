/** Promises 2 and 3: what is on the tape is told by what it is read as. */
public final class TapeTest {
  private static int wrong = 0;

  private static void due(String call, long got, long want) {
    if (got != want) {
      wrong++;
      System.out.println("tape: " + call + " answered " + got + ", due is " + want);
    }
  }

  private static void due(String call, boolean got, boolean want) {
    due(call, got ? 1 : 0, want ? 1 : 0);
  }

  private static int word(String four) {
    return four.charAt(0) << 24 | four.charAt(1) << 16 | four.charAt(2) << 8 | four.charAt(3);
  }

  private static int feed(PassedDark x, String twenty) {
    return x.feed(word(twenty.substring(0, 4)), word(twenty.substring(4, 8)),
        word(twenty.substring(8, 12)), word(twenty.substring(12, 16)), word(twenty.substring(16)));
  }

  public static void main(String[] args) {
    bytesInTheirOrder();
    aFullTape();
    wrongEnds();
    theEndCuts();
    highBytes();
    if (wrong != 0) {
      System.exit(1);
    }
  }

  private static void bytesInTheirOrder() {
    PassedDark x = new PassedDark();
    due("feed", feed(x, "course 17;house abcd"), 20);
    due("feed", feed(x, "ef at 13 care 42;   "), 40);
    due("course()", x.course(), 2);
    due("has(0)", x.has(0), 17);
    for (int k = 0; k < 6; k++) {
      due("letter(1,0," + k + ")", x.letter(1, 0, k), k + 1);
    }
    due("house(0,0)", x.house(0, 0), 13);
    due("house(0,1)", x.house(0, 1), 42);
    due("end(1), the tape has gone", x.end(1), false);
    due("feed from its beginning on", feed(x, "course 17;house abcd"), 20);
  }

  private static void aFullTape() {
    PassedDark x = new PassedDark();
    due("feed", feed(x, "course 33;          "), 20);
    for (int i = 2; i <= 80; i++) {
      due("feed " + i, x.feed(0x20202020, 0x20202020, 0x20202020, 0x20202020, 0x20202020), 20 * i);
    }
    due("feed beyond 1600", x.feed(1, 2, 3, 4, 5), -1);
    due("status(0)", x.status(0), 1);
    due("end(1581)", x.end(1581), true);
    due("feed beyond 1600 by one", x.feed(1, 2, 3, 4, 5), -1);
    due("status(0)", x.status(0), 2);
    due("end(1580)", x.end(1580), true);
    due("feed to 1600", x.feed(0x20202020, 0x20202020, 0x20202020, 0x20202020, 0x2020203b), 1600);
    due("end(1600)", x.end(1600), true);
    due("course() with a sign as its last byte", x.course(), -1);
    due("fault(0)", x.fault(0), 1);
    due("fault(1)", x.fault(1), 1599);
  }

  private static void wrongEnds() {
    PassedDark x = new PassedDark();
    due("end(0) of an empty one", x.end(0), true);
    due("end(1) of an empty one", x.end(1), false);
    due("end(-1)", x.end(-1), false);
    due("end(least)", x.end(Integer.MIN_VALUE), false);
    due("end(most)", x.end(Integer.MAX_VALUE), false);
    due("feed", feed(x, "course 33;          "), 20);
    due("end(21)", x.end(21), false);
    due("end(20)", x.end(20), true);
    due("status(0)", x.status(0), 5);
    due("course() of what refused calls left", x.course(), 1);
  }

  private static void theEndCuts() {
    PassedDark x = new PassedDark();
    feed(x, "course 33;xxxxxxxxxx");
    due("end(10)", x.end(10), true);
    due("end(11), cut off already", x.end(11), false);
    due("feed behind the cut", feed(x, "house a at 1 care 2;"), 30);
    due("course()", x.course(), 2);
    feed(x, "course 33;          ");
    due("end(0)", x.end(0), true);
    due("course() of nothing", x.course(), -1);
    due("fault(1)", x.fault(1), 0);
  }

  private static void highBytes() {
    PassedDark x = new PassedDark();
    feed(x, "course 33;          ");
    due("feed", x.feed(0x202020ff, 0, 0, 0, 0), 40);
    due("course()", x.course(), -1);
    due("fault(1) at byte 255", x.fault(1), 23);
  }
}
