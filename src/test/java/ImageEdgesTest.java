import java.util.Arrays;

/** Promises 30 to 33 and the image of Terms IV: a test for each sentence that names a boundary case. */
public final class ImageEdgesTest {
  private static int wrong = 0;
  private static String sentence = "";

  private static void edge(String words, Runnable test) {
    sentence = words;
    test.run();
  }

  private static void due(String call, long got, long want) {
    if (got != want) {
      wrong++;
      System.out.println(sentence + " - " + call + " answered " + got + ", due is " + want);
    }
  }

  private static void due(String call, boolean got, boolean want) {
    due(call, got ? 1 : 0, want ? 1 : 0);
  }

  private static void feed(PassedDark x, int... bytes) {
    for (int at = 0; at < bytes.length; at += 20) {
      int[] five = new int[5];
      for (int i = 0; i < 20; i++) {
        five[i / 4] = five[i / 4] << 8 | (at + i < bytes.length ? bytes[at + i] & 255 : 32);
      }
      x.feed(five[0], five[1], five[2], five[3], five[4]);
    }
    x.end(bytes.length);
  }

  private static PassedDark course(String text) {
    PassedDark x = new PassedDark();
    feed(x, text.chars().toArray());
    due("course() of " + text, x.course() > 0, true);
    return x;
  }

  /** All bytes and the last one that they ask for. */
  private static int[] summed(int... bytes) {
    int[] all = Arrays.copyOf(bytes, bytes.length + 1);
    int c = 199;
    for (int b : bytes) {
      c = (3 * c + b) % 251;
    }
    all[bytes.length] = c;
    return all;
  }

  private static void image(PassedDark x, int... bytes) {
    int[] all = summed(bytes);
    due("image()", x.image(), all.length);
    for (int k = 0; k < all.length; k++) {
      due("octet(" + k + ")", x.octet(k), all[k]);
    }
    due("octet(" + all.length + ")", x.octet(all.length), -1);
  }

  private static boolean on(PassedDark x, int... bytes) {
    feed(x, bytes);
    return x.on();
  }

  private static String all(PassedDark x) {
    StringBuilder told = new StringBuilder();
    for (int what = 0; what <= 11; what++) {
      told.append(x.has(what)).append(' ');
    }
    for (int what = 0; what <= 3; what++) {
      told.append(x.bearer(0, what)).append(' ').append(x.bearer(1, what)).append(' ')
          .append(x.house(0, what)).append(' ').append(x.house(1, what)).append(' ')
          .append(x.kept(0, what)).append(' ');
    }
    return told.toString();
  }

  private static final String TWO = "course 10;bearer a at 0 pace 3;bearer b at 5 pace 4;"
      + "house h at 2 care 20;house k at 9 care 45;wanes strength-run;";

  /** Bytes ahead of the last one that are no image of TWO behind an hour: false, all staying. */
  private static void refused(int... bytes) {
    notTaken(summed(bytes));
  }

  private static void notTaken(int... whole) {
    PassedDark x = course(TWO);
    x.hours(1);
    x.kindle(33);
    String ahead = all(x);
    due("on() of " + Arrays.toString(whole), on(x, whole), false);
    due("status(5)", x.status(5), 1);
    due("all stays", all(x).equals(ahead), true);
    due("undo()", x.undo(), true);
    due("has(5)", x.has(5), 47);
    due("end(1), the tape has gone", x.end(1), false);
  }

  /** Bytes ahead of the last one that are an image of TWO, which is then as they tell. */
  private static void taken(int... bytes) {
    PassedDark x = course(TWO);
    due("on() of " + Arrays.toString(bytes), on(x, summed(bytes)), true);
    due("status(5)", x.status(5), 0);
    image(x, bytes);
  }

  public static void main(String[] args) {
    images();
    octets();
    taken();
    limits();
    wrongLengths();
    holders();
    nobody();
    status();
    if (wrong != 0) {
      System.exit(1);
    }
  }

  private static void images() {
    edge("30: ahead of a course 6: all 0, nobody has it", () -> {
      PassedDark x = new PassedDark();
      due("image()", x.image(), 6);
      int[] bytes = {0, 0, 0, 0, 255, 169};
      for (int k = 0; k < 6; k++) {
        due("octet(" + k + ")", x.octet(k), bytes[k]);
      }
    });
    edge("IV: HOUR in two bytes, the higher first", () -> {
      PassedDark x = course("course 9;");
      x.hours(100);
      x.hours(100);
      x.hours(55);
      image(x, 0, 255, 0, 50, 255);
      x.hours(1);
      image(x, 1, 0, 0, 50, 255);
      for (int i = 0; i < 7; i++) {
        x.hours(100);
      }
      x.hours(43);
      image(x, 3, 231, 0, 50, 255);
    });
    edge("IV: who has it, 255: nobody", () -> {
      due("octet(4) without bearers", bytes(course("course 9;"))[4], 255);
      due("octet(4)", bytes(course("course 9;bearer a at 0 pace 1;"))[4], 0);
      due("octet(4)", bytes(course("course 9;bearer a at 1 pace 1;bearer b at 0 pace 1;"))[4], 1);
    });
    edge("IV: for each BEARER his MILE, 1 if he is ASIDE; for each HOUSE 1 if it is PASSED", () -> {
      PassedDark x = course(TWO);
      image(x, 0, 0, 0, 50, 0, 0, 0, 5, 0, 0, 0);
      x.aside(1, 1);
      x.hours(1);
      image(x, 0, 1, 3, 47, 0, 3, 0, 5, 1, 1, 0);
    });
    edge("30: none, and eight of each", () -> {
      due("image() of none", course("course 9;").image(), 6);
      StringBuilder text = new StringBuilder("course 99;");
      for (int i = 0; i < 8; i++) {
        text.append("bearer b").append((char) ('a' + i)).append(" at 99 pace 1;");
        text.append("house h").append((char) ('a' + i)).append(" at 99 care 1;");
      }
      PassedDark x = course(text.toString());
      due("image() of eight", x.image(), 30);
      due("octet(29)", x.octet(29) >= 0, true);
      due("octet(30)", x.octet(30), -1);
    });
    edge("IV: last a byte, c = (3 c + it) mod 251 from 199 on", () -> {
      // 199, 597 mod 251 = 95, 285 mod 251 = 34, 102, 356 mod 251 = 105, 570 mod 251 = 68
      PassedDark x = course("course 9;");
      due("image()", x.image(), 6);
      due("octet(5)", x.octet(5), 68);
    });
  }

  private static int[] bytes(PassedDark x) {
    int[] bytes = new int[Math.max(0, x.image())];
    for (int k = 0; k < bytes.length; k++) {
      bytes[k] = x.octet(k);
    }
    return bytes;
  }

  private static void octets() {
    edge("31: NONE ahead of any image()", () -> {
      due("octet(0)", new PassedDark().octet(0), -1);
      due("octet(0) in a course", course(TWO).octet(0), -1);
    });
    edge("31: NONE when there is none such", () -> {
      PassedDark x = course(TWO);
      x.image();
      due("octet(11)", x.octet(11) >= 0, true);
      for (int k : new int[] {12, 13, 30, -1, -2, -256, Integer.MAX_VALUE, Integer.MIN_VALUE}) {
        due("octet(" + k + ")", x.octet(k), -1);
      }
    });
    edge("31: of the latest image()", () -> {
      PassedDark x = course(TWO);
      x.image();
      x.hours(1);
      due("octet(1) ahead of another image()", x.octet(1), 0);
      x.image();
      due("octet(1)", x.octet(1), 1);
      feed(x, "course 9;".chars().toArray());
      x.course();
      due("octet(1) in another course", x.octet(1), 1);
      x.image();
      due("octet(6) of a shorter one", x.octet(6), -1);
    });
  }

  private static void taken() {
    edge("32: all is as it tells", () -> {
      PassedDark x = course(TWO);
      x.hours(2);
      x.aside(0, 1);
      due("on()", on(x, summed(2, 3, 7, 33, 1, 4, 0, 7, 0, 0, 1)), true);
      int[] has = {10, 2, 2, 515, 7, 33, 1, 1, 0, 0, 0, 0};
      for (int what = 0; what < has.length; what++) {
        due("has(" + what + ")", x.has(what), has[what]);
      }
      due("bearer(0,0)", x.bearer(0, 0), 4);
      due("bearer(1,0)", x.bearer(1, 0), 7);
      due("bearer(0,2)", x.bearer(0, 2), 0);
      due("house(0,2)", x.house(0, 2), 0);
      due("house(1,2)", x.house(1, 2), 1);
      due("hours(1)", x.hours(1), 3);
    });
    edge("32: an image of its own", () -> {
      PassedDark x = course(TWO);
      x.aside(1, 1);
      x.hours(1);
      int[] own = bytes(x);
      x.hours(50);
      due("on()", on(x, own), true);
      image(x, 0, 1, 3, 47, 0, 3, 0, 5, 1, 1, 0);
    });
    edge("32: nothing is KEPT", () -> {
      PassedDark x = course(TWO);
      x.hours(2);
      due("on()", on(x, summed(0, 0, 0, 50, 0, 0, 0, 5, 0, 0, 0)), true);
      due("has(9)", x.has(9), 0);
      due("kept(0,0)", x.kept(0, 0), -1);
      x.hours(1);
      due("kept(0,2)", x.kept(0, 2), 3);
    });
    edge("32: nothing can be undone", () -> {
      PassedDark x = course(TWO);
      x.hours(2);
      due("on()", on(x, summed(0, 0, 0, 50, 0, 0, 0, 5, 0, 0, 0)), true);
      due("has(11)", x.has(11), 0);
      due("undo()", x.undo(), false);
    });
    edge("32: the tape goes", () -> {
      PassedDark x = course(TWO);
      on(x, summed(0, 0, 0, 50, 0, 0, 0, 5, 0, 0, 0));
      due("end(1)", x.end(1), false);
      due("feed", x.feed(0, 0, 0, 0, 0), 20);
      x.on();
      due("end(1) behind what is none", x.end(1), false);
      due("feed behind what is none", x.feed(0, 0, 0, 0, 0), 20);
    });
    edge("32: what is SEEN stays, and the seed", () -> {
      PassedDark x = course("course 9;house h at 1 care 1;trip 50;");
      PassedDark y = course("course 9;house h at 1 care 1;trip 50;");
      feed(x, 0, 0, 0);
      x.see();
      on(x, summed(0, 0, 0, 50, 255, 0));
      due("has(10)", x.has(10), 1);
      due("chance(60)", x.chance(60), y.chance(60));
    });
  }

  private static void limits() {
    edge("32: HOUR 999 at most", () -> {
      taken(3, 231, 3, 47, 0, 3, 0, 5, 1, 1, 0);
      refused(3, 232, 3, 47, 0, 3, 0, 5, 1, 1, 0);
      refused(4, 0, 3, 47, 0, 3, 0, 5, 1, 1, 0);
      refused(255, 255, 3, 47, 0, 3, 0, 5, 1, 1, 0);
    });
    edge("32: strength 99 at most", () -> {
      taken(0, 1, 3, 99, 0, 3, 0, 5, 1, 1, 0);
      taken(0, 1, 3, 0, 0, 3, 0, 5, 1, 1, 0);
      refused(0, 1, 3, 100, 0, 3, 0, 5, 1, 1, 0);
      refused(0, 1, 3, 255, 0, 3, 0, 5, 1, 1, 0);
    });
    edge("32: flags 1 at most, of a BEARER", () -> {
      taken(0, 1, 3, 47, 0, 3, 0, 5, 0, 1, 0);
      taken(0, 1, 3, 47, 0, 3, 0, 5, 1, 1, 0);
      refused(0, 1, 3, 47, 0, 3, 0, 5, 2, 1, 0);
      refused(0, 1, 3, 47, 0, 3, 0, 5, 255, 1, 0);
      refused(0, 1, 5, 47, 1, 3, 2, 5, 0, 1, 0);
    });
    edge("32: flags 1 at most, of a HOUSE", () -> {
      taken(0, 1, 3, 47, 0, 3, 0, 5, 1, 1, 1);
      taken(0, 1, 3, 47, 0, 3, 0, 5, 1, 0, 0);
      refused(0, 1, 3, 47, 0, 3, 0, 5, 1, 2, 0);
      refused(0, 1, 3, 47, 0, 3, 0, 5, 1, 1, 2);
      refused(0, 1, 3, 47, 0, 3, 0, 5, 1, 1, 255);
    });
    edge("32: MILES that there are", () -> {
      taken(0, 1, 10, 47, 0, 10, 0, 10, 1, 1, 0);
      taken(0, 1, 0, 47, 0, 0, 0, 0, 1, 1, 0);
      refused(0, 1, 11, 47, 0, 11, 0, 5, 1, 1, 0);
      refused(0, 1, 255, 47, 0, 255, 0, 5, 1, 1, 0);
      refused(0, 1, 3, 47, 0, 3, 0, 11, 1, 1, 0);
      refused(0, 1, 5, 47, 1, 11, 0, 5, 0, 1, 0);
    });
  }

  private static void wrongLengths() {
    edge("32: refused when it is none: no byte, too few, too many", () -> {
      notTaken();
      notTaken(199);
      refused(0, 1, 3, 47, 0, 3, 0, 5, 1, 1);
      refused(0, 1, 3, 47, 0, 3, 0, 5, 1, 1, 0, 0);
      refused(0, 1, 3, 47, 0);
      refused(0, 0, 0, 0, 255);
      refused(new int[1599]);
    });
    edge("32: refused when its last byte is another one", () -> {
      int[] good = summed(0, 1, 3, 47, 0, 3, 0, 5, 1, 1, 0);
      int last = good.length - 1;
      for (int more : new int[] {1, 5, 250, 251, 255}) {
        int[] bad = good.clone();
        bad[last] = (good[last] + more) % 256;
        notTaken(bad);
      }
    });
    edge("32: refused when any byte is another one", () -> {
      int[] good = summed(0, 1, 3, 47, 0, 3, 0, 5, 1, 1, 0);
      for (int k = 0; k < good.length; k++) {
        int[] bad = good.clone();
        bad[k] = bad[k] ^ 1;
        notTaken(bad);
      }
    });
    edge("32: refused without a course", () -> {
      PassedDark x = new PassedDark();
      due("on()", on(x, summed(0, 0, 0, 0, 255)), false);
      due("status(5)", x.status(5), 1);
      due("has(0)", x.has(0), 0);
      due("end(1), the tape has gone", x.end(1), false);
    });
  }

  private static void holders() {
    edge("32: a BEARER that there is", () -> {
      taken(0, 1, 5, 47, 1, 3, 0, 5, 0, 1, 0);
      refused(0, 1, 3, 47, 2, 3, 0, 5, 1, 1, 0);
      refused(0, 1, 3, 47, 7, 3, 0, 5, 1, 1, 0);
      refused(0, 1, 3, 47, 254, 3, 0, 5, 1, 1, 0);
    });
    edge("32: a BEARER who is not ASIDE", () -> {
      refused(0, 1, 3, 47, 0, 3, 1, 5, 0, 1, 0);
      refused(0, 1, 5, 47, 1, 3, 0, 5, 1, 1, 0);
      taken(0, 1, 5, 47, 1, 3, 1, 5, 0, 1, 0);
    });
    edge("32: a BEARER at whose MILE the dark is", () -> {
      refused(0, 1, 3, 47, 0, 2, 0, 5, 1, 1, 0);
      refused(0, 1, 3, 47, 0, 4, 0, 5, 1, 1, 0);
      refused(0, 1, 3, 47, 1, 3, 0, 5, 0, 1, 0);
      taken(0, 1, 5, 47, 1, 5, 0, 5, 0, 1, 0);
    });
  }

  private static void nobody() {
    edge("32: nobody without BEARERS alone", () -> {
      refused(0, 1, 3, 47, 255, 3, 0, 5, 1, 1, 0);
      PassedDark x = course("course 9;house h at 2 care 20;");
      due("on() of nobody", on(x, summed(0, 7, 0, 20, 255, 1)), true);
      due("has(6)", x.has(6), -1);
      due("has(7)", x.has(7), 1);
      for (int who : new int[] {0, 1, 8, 254}) {
        due("on() of " + who, on(x, summed(0, 7, 0, 20, who, 1)), false);
      }
      due("status(5)", x.status(5), 4);
    });
    edge("32: without BEARERS it is at any MILE that there is", () -> {
      PassedDark x = course("course 9;");
      due("on() at 9", on(x, summed(0, 7, 9, 20, 255)), true);
      due("has(4)", x.has(4), 9);
      due("has(8)", x.has(8), 1);
      due("through()", x.through(), 0);
      due("few()", x.few(), 0);
      due("least()", x.least(), 1);
      due("change(2)", x.change(2), 20);
      due("hours(1)", x.hours(1), 0);
      due("has(5)", x.has(5), 20);
      due("on() at 10", on(x, summed(0, 7, 10, 20, 255)), false);
    });
  }

  private static void status() {
    edge("33: how many were refused, each of its sort", () -> {
      PassedDark x = new PassedDark();
      x.end(1);
      x.course();
      x.see();
      x.place(0, 0);
      x.aside(0, 0);
      x.kindle(0);
      x.hours(1);
      x.chance(1);
      x.hours(1);
      x.chance(1);
      for (int i = 0; i < 5; i++) {
        x.undo();
        x.on();
      }
      x.seed(-1);
      int[] status = {1, 2, 3, 4, 5, 6};
      for (int what = 0; what < 6; what++) {
        due("status(" + what + ")", x.status(what), status[what]);
      }
    });
    edge("33: refused feed() is counted with end()", () -> {
      PassedDark x = new PassedDark();
      for (int i = 0; i < 82; i++) {
        x.feed(0, 0, 0, 0, 0);
      }
      x.end(1601);
      due("status(0)", x.status(0), 3);
    });
    edge("33: what is refused ahead of a course stays counted", () -> {
      PassedDark x = new PassedDark();
      x.undo();
      feed(x, TWO.chars().toArray());
      x.course();
      due("status(4)", x.status(4), 1);
      x.undo();
      due("status(4)", x.status(4), 2);
    });
    edge("33: NONE for others", () -> {
      PassedDark x = new PassedDark();
      due("status(5)", x.status(5), 0);
      for (int what : new int[] {6, 7, -1, -2, Integer.MAX_VALUE, Integer.MIN_VALUE}) {
        due("status(" + what + ")", x.status(what), -1);
      }
    });
  }
}
