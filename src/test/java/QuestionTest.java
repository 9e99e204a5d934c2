/** Promise 29, and promise 5 of questions. */
public final class QuestionTest {
  private static int wrong = 0;

  private static void due(String call, long got, long want) {
    if (got != want) {
      wrong++;
      System.out.println("question: " + call + " answered " + got + ", due is " + want);
    }
  }

  private static void feed(PassedDark x, String text) {
    for (int at = 0; at < text.length(); at += 20) {
      int[] five = new int[5];
      for (int i = 0; i < 20; i++) {
        five[i / 4] = five[i / 4] << 8 | (at + i < text.length() ? text.charAt(at + i) & 255 : 32);
      }
      x.feed(five[0], five[1], five[2], five[3], five[4]);
    }
    x.end(text.length());
  }

  private static PassedDark course(String text) {
    PassedDark x = new PassedDark();
    feed(x, text);
    if (x.course() < 1) {
      wrong++;
      System.out.println("question: no course by " + text + ": " + x.fault(0) + " at " + x.fault(1));
    }
    return x;
  }

  private static void ask(PassedDark x, String text, long want) {
    feed(x, text);
    due(text, x.ask(), want);
    due("fault(0) of " + text, x.fault(0), 0);
    due("fault(1) of " + text, x.fault(1), -1);
    due("end(1) behind " + text, x.end(1) ? 1 : 0, 0);
  }

  /** A text with a @ ahead of the byte that has the fault. */
  private static void fault(PassedDark x, int code, String marked) {
    String text = marked.replace("@", "");
    feed(x, text);
    due(text, x.ask(), PassedDark.NOTHING);
    due("fault(0) of " + text, x.fault(0), code);
    due("fault(1) of " + text, x.fault(1), marked.indexOf('@'));
    due("end(1) behind " + text, x.end(1) ? 1 : 0, 0);
  }

  // Behind two hours it is at mile 6, 40 strong, and the houses 0 and 2 are passed.
  private static final String FIVE = "course 20;bearer a at 0 pace 3;bearer b at 12 pace 4;"
      + "house h at 2 care 20;house k at 5 care 48;house l at 6 care 0;house m at 15 care 70;"
      + "house n at 20 care 7;light mile-hour*2;wanes strength-5;";

  private static PassedDark five() {
    PassedDark x = course(FIVE);
    x.hours(2);
    return x;
  }

  public static void main(String[] args) {
    words(five());
    sorts(five());
    manyBehindOneAnother(five());
    litAndFrom(five());
    formulas(five());
    faults(five());
    withoutHouses();
    withoutACourse();
    if (wrong != 0) {
      System.exit(1);
    }
  }

  private static void words(PassedDark x) {
    ask(x, "total number", 10);
    ask(x, "total mile", 48);
    ask(x, "total care", 145);
    ask(x, "total passed", 2);
    ask(x, "total far", 4 + 1 + 0 + 9 + 14);
    ask(x, "total strength", 200);
    ask(x, "total hour", 10);
    ask(x, "total 7", 35);
  }

  private static void sorts(PassedDark x) {
    ask(x, "first all", 0);
    ask(x, "last all", 4);
    ask(x, "often all", 5);
    ask(x, "first passed = 0", 1);
    ask(x, "last passed=1", 2);
    ask(x, "often care < 21", 3);
    ask(x, "first care > 99", -1);
    ask(x, "last care > 99", -1);
    ask(x, "often care > 99", 0);
    ask(x, "most care", 70);
    ask(x, "least care", 0);
    ask(x, "most 0 - mile", -2);
    ask(x, "least 0 - mile", -20);
    ask(x, "total 0 - mile", -48);
    ask(x, " \n total\n9999*9999 ", 5000000);
    ask(x, "total 0-9999*9999", -5000000);
    ask(x, "most 0-1", -1);
    ask(x, "least mile", 2);
    ask(x, "least 20-mile", 0);
    ask(x, "most 2", 2);
    nothingIsChanged(x);
  }

  private static void manyBehindOneAnother(PassedDark x) {
    String text = "total (number+1)*2-1" + "+number*0".repeat(20);
    for (int i = 0; i < 25; i++) {
      ask(x, text, 25);
    }
    nothingIsChanged(x);
  }

  private static void litAndFrom(PassedDark x) {
    // Light at the miles 2, 5, 6, 15, 20 in hour 0: 2, 5, 6, 9, 9.
    ask(x, "total lit 0", 31);
    ask(x, "total lit hour", 0 + 1 + 2 + 9 + 9);
    ask(x, "total lit 999", 0);
    ask(x, "total lit 1000", 0);
    ask(x, "total lit(0-1)", 0);
    ask(x, "total lit 0+1", 36);
    ask(x, "total lit(0+1)", 0 + 3 + 4 + 9 + 9);
    ask(x, "total lit number", 2 + 3 + 2 + 9 + 9);
    // Light in hour 9 is 2 at mile 20, 0 elsewhere; then 2, 5, 6, 9 and 9.
    ask(x, "total lit lit 9", 2 + 5 + 6 + 9 + 9);
    ask(x, "total lit lit lit 9", 2);
    // a is at 6, b at 12.
    ask(x, "total from 0", 4 + 1 + 0 + 9 + 14);
    ask(x, "total from 1", 10 + 7 + 6 + 3 + 8);
    ask(x, "total from 2", -5);
    ask(x, "total from(0-1)", -5);
    ask(x, "total from 9999", -5);
    ask(x, "first from 1<from 0", 3);
    ask(x, "total from min(number,1)*2", 2 * (4 + 7 + 6 + 3 + 8));
    ask(x, "total from from 2", -5);
    PassedDark late = course("course 9;house h at 3 care 0;light (hour+mile)-995;");
    ask(late, "total lit 998", 6);
    ask(late, "total lit 999", 7);
    ask(late, "total lit 1000", 0);
    nothingIsChanged(x);
  }

  private static void formulas(PassedDark x) {
    ask(x, "total number/2", 0 + 0 + 1 + 1 + 2);
    ask(x, "total (0-number)/2", 0 - 1 - 1 - 2 - 2);
    ask(x, "total mile/number", 0 + 5 + 3 + 5 + 5);
    ask(x, "total 2+3*number-1", 5 + 30);
    ask(x, "often not passed=1 and mile<20", 2);
    ask(x, "often passed=1 or mile=20 and care=8", 2);
    ask(x, "often [passed=1 or mile=20] and care=7", 1);
    ask(x, "first max(care,far)=min(care,48)and far<care", 0);
  }

  private static void faults(PassedDark x) {
    fault(x, 1, "@");
    fault(x, 1, "  @");
    fault(x, 1, "@what all");
    fault(x, 1, "@care");
    fault(x, 1, "@5");
    fault(x, 1, "first@");
    fault(x, 1, "first care@");
    fault(x, 1, "first care @5");
    fault(x, 1, "total care @< 5");
    fault(x, 1, "total @all");
    fault(x, 1, "total care@;");
    fault(x, 1, "total care @care");
    fault(x, 1, "total@5");
    fault(x, 1, "total @light");
    fault(x, 1, "total @pace");
    fault(x, 1, "total @handed");
    fault(x, 1, "total @run");
    fault(x, 1, "total @first");
    fault(x, 1, "total @abcdefgh");
    fault(x, 1, "total lit@");
    fault(x, 1, "total lit @lights");
    fault(x, 1, "total from @-1");
    fault(x, 1, "total 1000@0");
    fault(x, 1, "often all@)");
    fault(x, 1, "often [all@");
    fault(x, 1, "often all @5");
    ask(x, "total lit from lit from lit from 5", 0);
    fault(x, 4, "total lit from lit from lit from @lit 5");
    fault(x, 4, "total lit(lit(lit(@(1))))");
    fault(x, 4, "often not [not [lit (@from 1=1");
    ask(x, "often not [not [lit (1)=from(1)]]", 0);
    ask(x, "total lit 1*lit 1*0+lit 1*0+lit 1*0+lit 1*0+from 1*0+from 1*0+(1)", 5);
    due("status(1): a question with a fault is not refused", x.status(1), 0);
    fault(x, 1, "@course 5;");
    nothingIsChanged(x);
  }

  private static void withoutHouses() {
    PassedDark x = course("course 9;bearer a at 0 pace 1;");
    ask(x, "first all", -1);
    ask(x, "last all", -1);
    ask(x, "often all", 0);
    ask(x, "total 5", 0);
    ask(x, "most 5", 0);
    ask(x, "least 5", 0);
    fault(x, 1, "least 5@)");
  }

  private static void withoutACourse() {
    PassedDark x = new PassedDark();
    feed(x, "xx");
    x.course();
    due("fault(0)", x.fault(0), 1);
    feed(x, "total number");
    due("ask()", x.ask(), PassedDark.NOTHING);
    due("fault(0) stays", x.fault(0), 1);
    due("fault(1) stays", x.fault(1), 0);
    due("end(1), the tape has gone", x.end(1) ? 1 : 0, 0);
  }

  private static void nothingIsChanged(PassedDark x) {
    int[] has = {20, 2, 5, 2, 6, 40, 0, 2, 0, 2, 0, 1};
    for (int what = 0; what < has.length; what++) {
      due("has(" + what + ") behind all questions", x.has(what), has[what]);
    }
  }
}
