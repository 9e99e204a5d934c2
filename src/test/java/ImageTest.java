/** Promises 30 to 32: images written, looked at, taken back. */
public final class ImageTest {
  private static int wrong = 0;

  private static void due(String call, long got, long want) {
    if (got != want) {
      wrong++;
      System.out.println("image: " + call + " answered " + got + ", due is " + want);
    }
  }

  private static void feed(PassedDark x, int... bytes) {
    for (int at = 0; at < bytes.length; at += 20) {
      int[] five = new int[5];
      for (int i = 0; i < 20; i++) {
        five[i / 4] = five[i / 4] << 8 | (at + i < bytes.length ? bytes[at + i] & 255 : 32);
      }
      x.feed(five[0], five[1], five[2], five[3], five[4]);
    }
    x.end(bytes.length);
  }

  private static PassedDark course(String text) {
    PassedDark x = new PassedDark();
    feed(x, text.chars().toArray());
    if (x.course() < 1) {
      wrong++;
      System.out.println("image: no course by " + text + ": " + x.fault(0) + " at " + x.fault(1));
    }
    return x;
  }

  private static int[] summed(int... bytes) {
    int[] all = java.util.Arrays.copyOf(bytes, bytes.length + 1);
    int c = 199;
    for (int b : bytes) {
      c = (3 * c + b) % 251;
    }
    all[bytes.length] = c;
    return all;
  }

  private static void image(PassedDark x, int... bytes) {
    int[] all = summed(bytes);
    due("image()", x.image(), all.length);
    for (int k = 0; k < all.length; k++) {
      due("octet(" + k + ")", x.octet(k), all[k]);
    }
    due("octet(" + all.length + ")", x.octet(all.length), -1);
    due("octet(-1)", x.octet(-1), -1);
  }

  private static void refused(PassedDark x, String why, int... all) {
    int status = x.status(5);
    feed(x, all);
    due("on(), " + why, x.on() ? 1 : 0, 0);
    due("status(5), " + why, x.status(5), status + 1);
    due("end(1), " + why, x.end(1) ? 1 : 0, 0);
  }

  private static final String TWO = "course 10;bearer a at 0 pace 3;bearer b at 5 pace 4;"
      + "house h at 2 care 20;house k at 9 care 45;wanes strength-run;";

  public static void main(String[] args) {
    aheadOfACourse();
    written();
    takenBack();
    clearsThePast();
    noImages();
    limits();
    nobody();
    if (wrong != 0) {
      System.exit(1);
    }
  }

  private static void aheadOfACourse() {
    PassedDark x = new PassedDark();
    due("octet(0) ahead of image()", x.octet(0), -1);
    image(x, 0, 0, 0, 0, 255);
    refused(x, "without a course", summed(0, 0, 0, 0, 255));
    feed(x, "course 9;".chars().toArray());
    x.course();
    due("octet(5) of the latest image()", x.octet(5), 169);
  }

  private static void written() {
    PassedDark x = course(TWO);
    image(x, 0, 0, 0, 50, 0, 0, 0, 5, 0, 0, 0);
    x.aside(1, 1);
    x.hours(1);
    due("octet(1) of the latest image()", x.octet(1), 0);
    image(x, 0, 1, 3, 47, 0, 3, 0, 5, 1, 1, 0);
    x.aside(1, 0);
    x.hours(100);
    x.hours(100);
    x.hours(100);
    image(x, 1, 45, 10, 40, 1, 5, 0, 10, 0, 1, 1);
    x.hours(100);
    x.hours(100);
    x.hours(11);
    image(x, 2, 0, 10, 40, 1, 5, 0, 10, 0, 1, 1);
    image(course("course 9;house h at 2 care 20;"), 0, 0, 0, 50, 255, 0);
    image(course("course 9;bearer a at 9 pace 1;"), 0, 0, 9, 50, 0, 9, 0);
  }

  private static void takenBack() {
    PassedDark x = course(TWO);
    x.aside(1, 1);
    x.hours(1);
    int[] bytes = new int[x.image()];
    for (int k = 0; k < bytes.length; k++) {
      bytes[k] = x.octet(k);
    }
    PassedDark y = course(TWO);
    y.hours(50);
    feed(y, bytes);
    due("on()", y.on() ? 1 : 0, 1);
    due("status(5)", y.status(5), 0);
    due("end(1), the tape has gone", y.end(1) ? 1 : 0, 0);
    image(y, 0, 1, 3, 47, 0, 3, 0, 5, 1, 1, 0);
    int[] has = {10, 2, 2, 1, 3, 47, 0, 1, 0, 0, 0, 0};
    for (int what = 0; what < has.length; what++) {
      due("has(" + what + ")", y.has(what), has[what]);
    }
    due("bearer(1,2)", y.bearer(1, 2), 1);
    due("house(0,2)", y.house(0, 2), 1);
    due("house(1,2)", y.house(1, 2), 0);
    y.hours(1);
    x.hours(1);
    for (int what = 0; what < 9; what++) {
      due("has(" + what + ") an hour on", y.has(what), x.has(what));
    }
    due("kept(0,0)", y.kept(0, 0), 1);
    feed(y, summed(2, 10, 7, 33, 1, 0, 1 - 1, 7, 0, 0, 1));
    due("on() with another one who has it", y.on() ? 1 : 0, 1);
    due("has(3)", y.has(3), 522);
    due("has(6)", y.has(6), 1);
    due("house(1,2)", y.house(1, 2), 1);
    due("bearer(1,2)", y.bearer(1, 2), 0);
    feed(y, summed(0, 0, 7, 33, 1, 0, 1, 7, 0, 0, 0));
    due("on() with one aside", y.on() ? 1 : 0, 1);
    due("bearer(0,2)", y.bearer(0, 2), 1);
    feed(y, summed(0, 0, 7, 33, 1, 0, 0, 7, 0, 0, 0));
    due("on() with none aside", y.on() ? 1 : 0, 1);
    due("bearer(0,2)", y.bearer(0, 2), 0);
    due("has(7)", y.has(7), 0);
  }

  private static void clearsThePast() {
    PassedDark x = course(TWO);
    feed(x, 1, 0, 1);
    x.see();
    x.hours(2);
    x.kindle(9);
    feed(x, summed(0, 0, 0, 50, 0, 0, 0, 5, 0, 0, 0));
    due("on()", x.on() ? 1 : 0, 1);
    due("has(9)", x.has(9), 0);
    due("kept(0,0)", x.kept(0, 0), -1);
    due("has(11)", x.has(11), 0);
    due("undo()", x.undo() ? 1 : 0, 0);
    due("has(10): what is seen stays", x.has(10), 1);
  }

  private static void noImages() {
    PassedDark x = course(TWO);
    x.hours(1);
    int[] good = summed(0, 1, 3, 47, 0, 3, 0, 5, 1, 1, 0);
    refused(x, "nothing");
    refused(x, "too short", summed(0, 1, 3, 47, 0, 3, 0, 5, 1, 1));
    refused(x, "too long", summed(0, 1, 3, 47, 0, 3, 0, 5, 1, 1, 0, 0));
    for (int k = 0; k < good.length; k++) {
      int[] bad = good.clone();
      bad[k] = (bad[k] + 1) % 256;
      refused(x, "byte " + k + " is another one", bad);
    }
    refused(x, "hour 1000", summed(3, 232, 3, 47, 0, 3, 0, 5, 1, 1, 0));
    refused(x, "hour 65535", summed(255, 255, 3, 47, 0, 3, 0, 5, 1, 1, 0));
    refused(x, "mile 11", summed(0, 1, 11, 47, 0, 11, 0, 5, 1, 1, 0));
    refused(x, "strength 100", summed(0, 1, 3, 100, 0, 3, 0, 5, 1, 1, 0));
    refused(x, "bearer 2", summed(0, 1, 3, 47, 2, 3, 0, 5, 1, 1, 0));
    refused(x, "nobody", summed(0, 1, 3, 47, 255, 3, 0, 5, 1, 1, 0));
    refused(x, "one who is aside", summed(0, 1, 3, 47, 0, 3, 1, 5, 1, 1, 0));
    refused(x, "one who is elsewhere", summed(0, 1, 3, 47, 0, 2, 0, 5, 1, 1, 0));
    refused(x, "one who is elsewhere", summed(0, 1, 3, 47, 1, 3, 0, 5, 0, 1, 0));
    refused(x, "another's mile 11", summed(0, 1, 3, 47, 0, 3, 0, 11, 1, 1, 0));
    refused(x, "the first one's mile 11", summed(0, 1, 3, 47, 1, 11, 0, 3, 0, 1, 0));
    refused(x, "the first one's flag 2", summed(0, 1, 3, 47, 1, 3, 2, 3, 0, 1, 0));
    refused(x, "flag 2 of a bearer", summed(0, 1, 3, 47, 0, 3, 0, 5, 2, 1, 0));
    refused(x, "flag 2 of a house", summed(0, 1, 3, 47, 0, 3, 0, 5, 1, 2, 0));
    refused(x, "flag 255 of the last house", summed(0, 1, 3, 47, 0, 3, 0, 5, 1, 1, 255));
    int[] has = {10, 2, 2, 1, 3, 47, 0, 1, 0, 1, 0, 1};
    for (int what = 0; what < has.length; what++) {
      due("has(" + what + ") stays", x.has(what), has[what]);
    }
    due("bearer(1,2) stays", x.bearer(1, 2), 0);
    feed(x, good);
    due("on() of the good one", x.on() ? 1 : 0, 1);
  }

  private static void limits() {
    PassedDark x = course(TWO);
    feed(x, summed(3, 231, 10, 99, 1, 10, 1, 10, 0, 1, 1));
    due("on() of hour 999", x.on() ? 1 : 0, 1);
    due("has(3)", x.has(3), 999);
    due("has(5)", x.has(5), 99);
    due("has(8)", x.has(8), 1);
    due("hours(1)", x.hours(1), -1);
    feed(x, summed(0, 0, 0, 0, 1, 10, 0, 0, 0, 0, 0));
    due("on() of one that is out", x.on() ? 1 : 0, 1);
    due("through()", x.through(), -1);
    StringBuilder text = new StringBuilder("course 99;");
    int[] all = new int[29];
    all[2] = 99;
    all[4] = 7;
    for (int i = 0; i < 8; i++) {
      char c = (char) ('a' + i);
      text.append("bearer b").append(c).append(" at 99 pace 1;house h").append(c).append(" at 9 care 1;");
      all[5 + 2 * i] = 99;
      all[6 + 2 * i] = i < 7 ? 1 : 0;
      all[21 + i] = i % 2;
    }
    PassedDark many = course(text.toString());
    feed(many, summed(all));
    due("on() of 8 and 8", many.on() ? 1 : 0, 1);
    image(many, all);
    due("has(7)", many.has(7), 4);
    due("later(0,3)", many.later(0, 3), 0xaa);
  }

  private static void nobody() {
    PassedDark x = course("course 9;house h at 2 care 20;");
    feed(x, summed(0, 7, 4, 20, 255, 1));
    due("on() without bearers", x.on() ? 1 : 0, 1);
    due("has(3)", x.has(3), 7);
    due("has(4)", x.has(4), 4);
    due("has(6)", x.has(6), -1);
    due("has(7)", x.has(7), 1);
    refused(x, "a bearer where none is", summed(0, 7, 4, 20, 0, 1));
    refused(x, "a bearer where none is", summed(0, 7, 4, 20, 254, 1));
    refused(x, "mile 10", summed(0, 7, 10, 20, 255, 1));
  }
}
