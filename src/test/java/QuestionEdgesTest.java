/** Promise 29, promise 5 of questions and the first half of Terms IV: a test for each sentence that names a boundary case. */
public final class QuestionEdgesTest {
  private static int wrong = 0;
  private static String sentence = "";

  private static void edge(String words, Runnable test) {
    sentence = words;
    test.run();
  }

  private static void due(String call, long got, long want) {
    if (got != want) {
      wrong++;
      System.out.println(sentence + " - " + call + " answered " + got + ", due is " + want);
    }
  }

  private static void due(String call, boolean got, boolean want) {
    due(call, got ? 1 : 0, want ? 1 : 0);
  }

  private static void feed(PassedDark x, String text) {
    for (int at = 0; at < text.length(); at += 20) {
      int[] five = new int[5];
      for (int i = 0; i < 20; i++) {
        five[i / 4] = five[i / 4] << 8 | (at + i < text.length() ? text.charAt(at + i) & 255 : 32);
      }
      x.feed(five[0], five[1], five[2], five[3], five[4]);
    }
    x.end(text.length());
  }

  private static PassedDark course(String text) {
    PassedDark x = new PassedDark();
    feed(x, text);
    due("course() of " + text, x.course() > 0, true);
    return x;
  }

  // Behind two hours it is at mile 6, 40 strong, and the houses 0 and 2 are passed.
  private static final String FIVE = "course 20;bearer a at 0 pace 3;bearer b at 12 pace 4;"
      + "house h at 2 care 20;house k at 5 care 48;house l at 6 care 0;house m at 15 care 70;"
      + "house n at 20 care 7;light mile-hour*2;wanes strength-5;";

  private static PassedDark five() {
    PassedDark x = course(FIVE);
    x.hours(2);
    return x;
  }

  private static long asked(PassedDark x, String text) {
    feed(x, text);
    return x.ask();
  }

  /** A question of the five houses; a text with a @ has a fault ahead of that byte. */
  private static void ask(String text, long want) {
    PassedDark x = five();
    due(text, asked(x, text), want);
    due("fault(0) of " + text, x.fault(0), 0);
    due("fault(1) of " + text, x.fault(1), -1);
  }

  private static void fault(int code, String marked) {
    PassedDark x = five();
    String text = marked.replace("@", "");
    due(text, asked(x, text), PassedDark.NOTHING);
    due("fault(0) of " + text, x.fault(0), code);
    due("fault(1) of " + text, x.fault(1), marked.indexOf('@'));
  }

  public static void main(String[] args) {
    answers();
    parts();
    faults();
    open();
    tape();
    if (wrong != 0) {
      System.exit(1);
    }
  }

  private static void answers() {
    edge("IV: first, the first HOUSE for which it holds", () -> {
      ask("first all", 0);
      ask("first passed=0", 1);
      ask("first number=4", 4);
    });
    edge("IV: last, the last HOUSE for which it holds", () -> {
      ask("last all", 4);
      ask("last passed=1", 2);
      ask("last number=0", 0);
    });
    edge("29: NONE of first, last, when its TEST holds for none", () -> {
      ask("first care>70", -1);
      ask("last care>70", -1);
      ask("first not all", -1);
      PassedDark x = course("course 9;");
      due("first without houses", asked(x, "first all"), -1);
      due("last without houses", asked(x, "last all"), -1);
    });
    edge("IV: often, for how many, 0 and all too", () -> {
      ask("often care>70", 0);
      ask("often care<21", 3);
      ask("often all", 5);
      due("often without houses", asked(course("course 9;"), "often all"), 0);
    });
    edge("IV: total, of all together, not held", () -> {
      ask("total 9999*9999", 5000000);
      ask("total 0-9999*9999", -5000000);
      ask("total 300*1000", 1500000);
      ask("total mile-10", -2);
      due("total without houses", asked(course("course 9;"), "total 5"), 0);
    });
    edge("IV: most, the greatest of all", () -> {
      ask("most care", 70);
      ask("most 0-care", 0);
      ask("most 0-mile", -2);
      ask("most number", 4);
      ask("most 0-number", 0);
    });
    edge("IV: least, the least of all", () -> {
      ask("least care", 0);
      ask("least mile", 2);
      ask("least 0-number", -4);
      ask("least number", 0);
      ask("least 100-mile", 80);
    });
    edge("IV: most, least are 0 without HOUSES", () -> {
      PassedDark x = course("course 9;bearer a at 0 pace 1;");
      due("most", asked(x, "most 5"), 0);
      due("least", asked(x, "least 0-5"), 0);
      due("least", asked(x, "least 5"), 0);
    });
    edge("IV: of one HOUSE, and of eight", () -> {
      PassedDark one = course("course 9;house h at 3 care 7;");
      due("first all", asked(one, "first all"), 0);
      due("last all", asked(one, "last all"), 0);
      due("most care", asked(one, "most care"), 7);
      StringBuilder text = new StringBuilder("course 9;");
      for (int i = 0; i < 8; i++) {
        text.append("house h").append((char) ('a' + i)).append(" at ").append(i).append(" care 9;");
      }
      PassedDark eight = course(text.toString());
      due("last all", asked(eight, "last all"), 7);
      due("total 1", asked(eight, "total 1"), 8);
      due("total 9999*9999", asked(eight, "total 9999*9999"), 8000000);
      due("most mile", asked(eight, "most mile"), 7);
    });
  }

  private static void parts() {
    edge("IV: number, mile, care, passed, far, strength, hour", () -> {
      ask("total number", 10);
      ask("total mile", 48);
      ask("total care", 145);
      ask("total passed", 2);
      ask("total strength", 200);
      ask("total hour", 10);
    });
    edge("IV: far, how many MILES from the dark, whichever way", () -> {
      ask("total far", 4 + 1 + 0 + 9 + 14);
      ask("first far=0", 2);
      ask("least far", 0);
    });
    // Light at the miles 2, 5, 6, 15, 20 in hour 0: 2, 5, 6, 9, 9.
    edge("IV: lit, in the HOUR of that number", () -> {
      ask("total lit 0", 31);
      ask("total lit 9", 2);
      ask("total lit hour", 0 + 1 + 2 + 9 + 9);
      ask("total lit number", 2 + 3 + 2 + 9 + 9);
    });
    edge("IV: lit is 0 below 0", () -> {
      ask("total lit(0-1)", 0);
      ask("total lit(0-9999*9999)", 0);
      PassedDark x = course("course 9;house h at 3 care 0;light 5;");
      due("lit of 0", asked(x, "total lit 0"), 5);
      due("lit of -1", asked(x, "total lit(0-1)"), 0);
    });
    edge("IV: lit is 0 beyond 999", () -> {
      PassedDark x = course("course 9;house h at 3 care 0;light 5;");
      due("lit of 999", asked(x, "total lit 999"), 5);
      due("lit of 1000", asked(x, "total lit 1000"), 0);
      due("lit of 9999", asked(x, "total lit 9999"), 0);
      due("lit of 10 to the 6", asked(x, "total lit(9999*9999)"), 0);
    });
    edge("IV: lit is 0 .. 9 as LIGHT is", () -> {
      PassedDark x = course("course 9;house h at 3 care 0;light 12-hour;");
      due("above 9", asked(x, "total lit 0"), 9);
      due("below 0", asked(x, "total lit 50"), 0);
    });
    // a is at 6, b at 12.
    edge("IV: from, where the BEARER of that number is, whichever way", () -> {
      ask("total from 0", 4 + 1 + 0 + 9 + 14);
      ask("total from 1", 10 + 7 + 6 + 3 + 8);
    });
    edge("IV: from is -1 without such a one", () -> {
      ask("total from 2", -5);
      ask("total from(0-1)", -5);
      ask("total from 9999", -5);
      ask("total from(9999*9999)", -5);
      PassedDark nobody = course("course 9;house h at 3 care 0;");
      due("from 0 without bearers", asked(nobody, "total from 0"), -1);
      due("from -1 without bearers", asked(nobody, "total from(0-1)"), -1);
    });
    edge("IV: lit, from are of the next PART alone", () -> {
      ask("total lit 0+1", 36);
      ask("total lit 0*0+1", 5);
      ask("total lit lit 9", 2 + 5 + 6 + 9 + 9);
      ask("total from from 2", -5);
      ask("total from min(0,1)+0", 28);
    });
    edge("IV: TEST, SUM as in I", () -> {
      ask("often all or not all and not all", 5);
      ask("often not passed=1 and mile<20", 2);
      ask("total number/2", 0 + 0 + 1 + 1 + 2);
      ask("total (0-number)/2", 0 - 1 - 1 - 2 - 2);
      ask("total mile/number", 0 + 5 + 3 + 5 + 5);
      ask("most 1000*1000*(1000*1000)", 1000000);
      ask("most min(number,2)+max(number,2)", 6);
      ask("total 0009", 45);
    });
    edge("IV: none of the words that I alone has", () -> {
      for (String word : new String[] {"light", "pace", "handed", "run", "course", "at", "trip"}) {
        fault(1, "total @" + word);
        fault(1, "first @" + word + "=1");
      }
    });
  }

  private static void faults() {
    edge("IV: fault 1 without a question", () -> {
      fault(1, "@");
      fault(1, " \n @");
    });
    edge("IV: fault 1, an unknown word at its first byte", () -> {
      fault(1, "@what all");
      fault(1, "@firsts all");
      fault(1, "@firs all");
      fault(1, "  @all");
      fault(1, "@course 9;");
      fault(1, "total @what");
      fault(1, "total @numbers");
      fault(1, "total lit @whatever");
      fault(1, "often all and @nothing");
      fault(1, "@5");
      fault(1, "@;");
    });
    edge("IV: fault 1, what stands behind it, too", () -> {
      fault(1, "total care@;");
      fault(1, "total care @care");
      fault(1, "total 5 @5");
      fault(1, "total 5@)");
      fault(1, "often all @all");
      fault(1, "often all@]");
      fault(1, "total care@" + (char) 0);
      fault(1, "total care @" + (char) 255);
    });
    edge("IV: blanks behind it are none", () -> ask("total care \n ", 145));
    edge("IV: fault 1 at the text's length, if it ends too soon", () -> {
      for (String text : new String[] {"first", "last", "often", "total", "most", "least", "first care",
          "first care<", "first not", "first [all", "total (1", "total 1+", "total lit", "total from",
          "total min", "total min(1,2"}) {
        fault(1, text + "@");
        fault(1, text + " @");
      }
    });
    edge("IV: a TEST for first, last, often, a SUM for the others", () -> {
      fault(1, "total @all");
      fault(1, "most @not all");
      fault(1, "least care@<5");
      fault(1, "often care@");
      fault(1, "first care @5");
      fault(1, "last (care@<5)");
    });
    edge("IV: fault 1, a 5th digit at itself", () -> {
      fault(1, "total 1234@5");
      fault(1, "total 0000@0");
      ask("total 9999", 49995);
    });
    edge("IV: words and numbers side by side need a blank", () -> {
      fault(1, "total@5");
      fault(1, "total 5@care");
      fault(1, "total lit@5");
      fault(1, "total 5@x");
      ask("total(5)", 25);
    });
  }

  private static void open() {
    edge("IV: six open at once are not too many", () -> {
      ask("total ((((((5))))))", 25);
      ask("often [[[[[[all]]]]]]", 5);
      ask("often not not not not not not all", 5);
      ask("total lit lit lit lit lit lit 0", 2);
      ask("total from from from from from from 9", -5);
      ask("total lit from lit from lit from 5", 0);
      ask("total from(lit(from(0-1)))", 28);
    });
    edge("IV: fault 4, the 7th at it", () -> {
      fault(4, "total ((((((@(5)))))))");
      fault(4, "often [[[[[[@[all]]]]]]]");
      fault(4, "often not not not not not not @not all");
      fault(4, "total lit lit lit lit lit lit @lit 0");
      fault(4, "total from from from from from from @from 9");
      fault(4, "total lit from lit from lit from @(5)");
      fault(4, "total (((((lit @from 5");
      fault(4, "often not [not [lit (@from 1=1");
      fault(4, "total lit(lit(lit(min @(1,2))))");
    });
    edge("IV: lit, from are open until their PART ends", () -> {
      fault(4, "total lit(lit(lit(@(1))))");
      ask("total lit 1*0+lit 1*0+lit 1*0+lit 1*0+from 1*0+from 1*0+((((((1))))))", 5);
      ask("total lit(lit(0))*0+lit(lit(lit 0))*0", 0);
    });
    edge("IV: not is open until its FACT ends", () -> {
      fault(4, "often not lit lit lit lit lit @lit 0=1");
      fault(4, "often not lit lit lit lit lit 0=from from from from from @from 0");
      ask("often not 1=2 and not 1=2 and not 1=2 and lit lit lit lit lit lit 0=9 and 1=2", 0);
    });
    edge("IV: each question begins with nothing open", () -> {
      PassedDark x = five();
      due("a fault with six open", asked(x, "total ((((((what"), PassedDark.NOTHING);
      due("a question behind it", asked(x, "total ((((((5))))))"), 25);
    });
  }

  private static void tape() {
    edge("29: the tape goes", () -> {
      PassedDark x = five();
      asked(x, "total number");
      due("end(1)", x.end(1), false);
      asked(x, "total what");
      due("end(1) behind a fault", x.end(1), false);
      due("feed", x.feed(0, 0, 0, 0, 0), 20);
    });
    edge("29: NOTHING with a FAULT", () -> {
      due("NOTHING", PassedDark.NOTHING, -1000000000000000L);
      due("ask()", asked(five(), "total"), -1000000000000000L);
      due("ask() of an empty tape", five().ask(), -1000000000000000L);
    });
    edge("29: a FAULT is refused nowhere", () -> {
      PassedDark x = five();
      asked(x, "total");
      for (int what = 0; what < 6; what++) {
        due("status(" + what + ")", x.status(what), 0);
      }
    });
    edge("29: a question changes nothing", () -> {
      PassedDark x = five();
      asked(x, "total lit from number");
      asked(x, "first what");
      int[] has = {20, 2, 5, 2, 6, 40, 0, 2, 0, 2, 0, 1};
      for (int what = 0; what < has.length; what++) {
        due("has(" + what + ")", x.has(what), has[what]);
      }
    });
    edge("29: NOTHING without a course, the tape goes", () -> {
      PassedDark x = new PassedDark();
      due("ask()", asked(x, "total number"), PassedDark.NOTHING);
      due("end(1)", x.end(1), false);
      due("ask() of an empty tape", x.ask(), PassedDark.NOTHING);
      due("feed", x.feed(0, 0, 0, 0, 0), 20);
    });
    edge("29: without a course nothing else is done, fault() stays", () -> {
      PassedDark x = new PassedDark();
      asked(x, "what");
      due("fault(0) ahead of any", x.fault(0), 0);
      due("fault(1) ahead of any", x.fault(1), -1);
      feed(x, "course 4;");
      x.course();
      asked(x, "total 5");
      due("fault(0)", x.fault(0), 2);
      due("fault(1)", x.fault(1), 7);
    });
  }
}
