/** Promises 4 and 5: which texts are courses, and where the others have their faults. */
public final class CourseTest {
  private static int wrong = 0;

  private static void due(String call, long got, long want) {
    if (got != want) {
      wrong++;
      System.out.println("course: " + call + " answered " + got + ", due is " + want);
    }
  }

  private static void feed(PassedDark x, String text) {
    for (int at = 0; at < text.length(); at += 20) {
      int[] five = new int[5];
      for (int i = 0; i < 20; i++) {
        five[i / 4] = five[i / 4] << 8 | (at + i < text.length() ? text.charAt(at + i) & 255 : 32);
      }
      x.feed(five[0], five[1], five[2], five[3], five[4]);
    }
    x.end(text.length());
  }

  private static final String LEGS =
      "course 20;bearer abe at 4 pace 3;house hill at 7 care 30;dark 60;trip 9;";

  /** A text with a @ ahead of the byte that has the fault. */
  private static void fault(int code, String marked) {
    PassedDark x = new PassedDark();
    feed(x, LEGS);
    due(LEGS, x.course(), 5);
    x.hours(1);
    String text = marked.replace("@", "");
    feed(x, text);
    due(text, x.course(), -1);
    due("fault(0) of " + text, x.fault(0), code);
    due("fault(1) of " + text, x.fault(1), marked.indexOf('@'));
    due("fault(2)", x.fault(2), -1);
    due("status(1)", x.status(1), 1);
    allStays(x, text);
  }

  private static void allStays(PassedDark x, String text) {
    int[] has = {20, 1, 1, 1, 7, 60, 0, 1, 0, 1, 0, 1};
    for (int what = 0; what < has.length; what++) {
      due("has(" + what + ") behind " + text, x.has(what), has[what]);
    }
    due("bearer(0,1) behind " + text, x.bearer(0, 1), 3);
    due("letter(0,0,2) behind " + text, x.letter(0, 0, 2), 5);
    due("house(0,1) behind " + text, x.house(0, 1), 30);
    due("letter(1,0,0) behind " + text, x.letter(1, 0, 0), 8);
    due("end(1) behind " + text, x.end(1) ? 1 : 0, 0);
  }

  private static PassedDark course(int statements, String text) {
    PassedDark x = new PassedDark();
    feed(x, text);
    due(text, x.course(), statements);
    due("fault(0) of " + text, x.fault(0), 0);
    due("fault(1) of " + text, x.fault(1), -1);
    return x;
  }

  public static void main(String[] args) {
    goodTexts();
    limits();
    firstStatement();
    noSuchText();
    formulasNotThere();
    namesNotThere();
    numbersThatCannotBe();
    namesThereAlready();
    tooDeep();
    tooMany();
    theFirstFaultCounts();
    allAsAtFirst();
    oneBehindTheOther();
    longCoursesBehindOneAnother();
    if (wrong != 0) {
      System.exit(1);
    }
  }

  private static void goodTexts() {
    due("dark without one", course(1, "course 5;").has(5), 50);
    due("the last dark", course(3, "course 5;dark 3;dark 7;").has(5), 7);
    course(1, "\n course\n\n 0099 ; \n");
    course(7, "course 5;light(hour);wanes 9999;takes[all];trip 0;trip 100;dark 1;");
    course(2, "course 5;light min(hour,max(mile,3))*2/4-1+0;");
    course(2, "course 5;wanes strength+light*pace-handed/run+hour;");
    course(2, "course 5;takes not far<strength and[light=pace or hour>1]or all;");
    PassedDark x = course(3, "course 5;bearer first at 0 pace 1;house last at 5 care 0;");
    due("letter(0,0,0)", x.letter(0, 0, 0), 6);
    course(4, "course 5;bearer often at 0 pace 1;bearer total at 0 pace 1;bearer most at 0 pace 1;");
    course(3, "course 5;house z at 0 care 99;bearer least at 5 pace 9;");
  }

  private static void limits() {
    due("has(0)", course(1, "course 99;").has(0), 99);
    StringBuilder text = new StringBuilder("course 9;");
    for (int i = 0; i < 8; i++) {
      char c = (char) ('a' + i);
      text.append("bearer ").append(c).append(" at 9 pace 9;house h").append(c).append(" at 0 care 99;");
    }
    PassedDark x = course(17, text.toString());
    due("has(1)", x.has(1), 8);
    due("has(2)", x.has(2), 8);
    StringBuilder many = new StringBuilder("course 9;");
    for (int i = 0; i < 59; i++) {
      many.append("dark ").append(i + 1).append(';');
    }
    due("has(5)", course(60, many + " \n ").has(5), 59);
    for (String one : new String[] {"dark 3;", "xyz", ";", "5", "light light", "course 5;", "" + (char) 200}) {
      fault(5, many + " @" + one);
    }
  }

  private static void firstStatement() {
    fault(1, "@");
    fault(1, " \n @");
    fault(1, "@;");
    fault(1, "@dark 5;course 5;");
    fault(1, "@cours 5;");
    fault(1, "@courses 5;");
    fault(1, "@Course 5;");
    fault(1, "@\tcourse 5;");
    fault(1, "@5 course;");
    fault(1, "course@");
    fault(1, "course @;");
    fault(1, "course @x;");
    fault(1, "course@5;");
    fault(1, "course 5@");
    fault(1, "course 5 @dark 5;");
    fault(1, "course 5@x;");
    fault(1, "course 5;@course 5;");
    fault(1, "course 5;@;");
  }

  private static void noSuchText() {
    fault(1, "course 5;@at 5;");
    fault(1, "course 5;@strength 5;");
    fault(1, "course 5;@nonsense");
    fault(1, "course 5;dark@");
    fault(1, "course 5;dark 5@");
    fault(1, "course 5;dark 5@,");
    fault(1, "course 5;@" + (char) 0);
    fault(1, "course 5;dark 5@" + (char) 0 + ";");
    fault(1, "course 5;@" + (char) 255);
    fault(1, "course 5;@" + (char) 13);
    fault(1, "course 5;dark @all;");
    fault(1, "course 5;dark @-5;");
    fault(1, "course 5;dark@5;");
    fault(1, "course 5;dark 1234@5;");
    fault(1, "course 5;dark 0000@5;");
    fault(1, "course 1000@0;");
    fault(1, "course 5;bearer a @5;");
    fault(1, "course 5;bearer a @pace 5;");
    fault(1, "course 5;bearer a at 5 @care 5;");
    fault(1, "course 5;bearer a at 5@pace 5;");
    fault(1, "course 5;bearer a at 5 pace 5@");
    fault(1, "course 5;bearer a at 5 pace 5 @house");
    fault(1, "course 5;house a at 5 @pace 5;");
    fault(1, "course 5;house a at 5 care @;");
    fault(1, "course 5;trip @;");
  }

  private static void formulasNotThere() {
    fault(1, "course 5;light @;");
    fault(1, "course 5;light @strength;");
    fault(1, "course 5;light @light;");
    fault(1, "course 5;light @all;");
    fault(1, "course 5;light hour @mile;");
    fault(1, "course 5;light hour @< 3;");
    fault(1, "course 5;light (hour@;");
    fault(1, "course 5;light (@);");
    fault(1, "course 5;light ((hour)@;");
    fault(1, "course 5;light hour@);");
    fault(1, "course 5;light min @hour;");
    fault(1, "course 5;light min@;");
    fault(1, "course 5;light 3+max@");
    fault(1, "course 5;light min(hour@);");
    fault(1, "course 5;light max(hour,mile@,3);");
    fault(1, "course 5;light 3 + @;");
    fault(1, "course 5;light 3 * @* 4;");
    fault(1, "course 5;light @- 4;");
    fault(1, "course 5;light @[hour];");
    fault(1, "course 5;light 1234@5;");
    fault(1, "course 5;light 3@hour;");
    fault(1, "course 5;light hour@3;");
    fault(1, "course 5;light 3@");
    fault(1, "course 5;wanes @mile;");
    fault(1, "course 5;wanes @far;");
    fault(1, "course 5;wanes @number;");
    fault(1, "course 5;wanes @lit 3;");
    fault(1, "course 5;takes @mile = 3;");
    fault(1, "course 5;takes @handed = 3;");
    fault(1, "course 5;takes @run = 3;");
    fault(1, "course 5;takes @from 3 = 3;");
    fault(1, "course 5;takes hour@;");
    fault(1, "course 5;takes (hour @= 3);");
    fault(1, "course 5;takes hour = @;");
    fault(1, "course 5;takes hour = 3 @= 4;");
    fault(1, "course 5;takes [all@;");
    fault(1, "course 5;takes [all@);");
    fault(1, "course 5;takes not @;");
    fault(1, "course 5;takes all @all;");
    fault(1, "course 5;takes all and @;");
    fault(1, "course 5;takes all or @or all;");
    fault(1, "course 5;takes hour <@= 3;");
  }

  private static void namesNotThere() {
    String[] own = {"course", "bearer", "at", "pace", "house", "care", "dark", "light", "wanes",
      "takes", "trip", "strength", "hour", "mile", "handed", "run", "far", "number", "passed", "lit",
      "from", "or", "and", "not", "all", "min", "max"};
    for (String word : own) {
      fault(1, "course 5;bearer @" + word + " at 0 pace 1;");
      fault(1, "course 5;house @" + word + " at 0 care 1;");
    }
    fault(1, "course 5;bearer @;");
    fault(1, "course 5;bearer @5 at 0 pace 1;");
    fault(1, "course 5;bearer@5 at 0 pace 1;");
    fault(1, "course 5;bearer @Abe at 0 pace 1;");
    fault(1, "course 5;bearer abcdef@g at 0 pace 1;");
    fault(1, "course 5;house coursi@ng at 0 care 1;");
    fault(1, "course 5;house streng@thx at 0 care 1;");
    fault(1, "course 5;house abc@5 at 0 care 1;");
    fault(1, "course 5;house abc@- at 0 care 1;");
    fault(1, "course 5;house @");
  }

  private static void numbersThatCannotBe() {
    fault(2, "course @4;");
    fault(2, "course @100;");
    fault(2, "course @0000;");
    fault(2, "course @9999x;");
    fault(2, "course 5;dark @0;");
    fault(2, "course 5;dark @100;");
    fault(2, "course 5;trip @101;");
    fault(2, "course 5;bearer a at @6 pace 1;");
    fault(2, "course 5;bearer a at 5 pace @0;");
    fault(2, "course 5;bearer a at 5 pace @10;");
    fault(2, "course 5;house a at @6 care 1;");
    fault(2, "course 5;house a at 5 care @100;");
  }

  private static void namesThereAlready() {
    fault(3, "course 5;bearer abe at 0 pace 1;bearer @abe at 1 pace 2;");
    fault(3, "course 5;bearer abe at 0 pace 1;house @abe at 1 care 2;");
    fault(3, "course 5;house abe at 0 care 1;bearer @abe");
    fault(3, "course 5;house a at 0 care 1;house b at 0 care 1;house @a 5");
    course(4, "course 5;house a at 0 care 1;house ab at 0 care 1;bearer abc at 0 pace 1;");
  }

  private static void tooDeep() {
    course(2, "course 5;light ((((((hour))))))+((((((1))))));");
    fault(4, "course 5;light ((((((@(hour)))))));");
    course(2, "course 5;light min(1,min(2,min(3,min(4,min(5,min(6,7))))));");
    fault(4, "course 5;light min(1,min(2,min(3,min(4,min(5,min(6,min@(7,8)))))));");
    course(2, "course 5;takes not not not not not not all and not not not not not not 1=1;");
    fault(4, "course 5;takes not not not not not not @not all;");
    course(2, "course 5;takes [[[[[[all]]]]]];");
    fault(4, "course 5;takes [[[[[[@[all");
    fault(4, "course 5;takes not [not [max(1,(@(2");
    course(2, "course 5;takes not [not [max(1,(2))=3]] and not[not[not(1)=1]];");
    fault(4, "course 5;takes not[not[not(@(1))=1]];");
    fault(4, "course 5;takes not[not[not 1=(1) and not(@(1))=1]];");
    course(2, "course 5;takes not all and not all and not all and not all and not all and not all"
        + " and not all and [all] and [all] and (1)=(1) and (1)=(1) and (1)=(1);");
  }

  private static void tooMany() {
    fault(5, "course 5;light 1;@light 2;");
    fault(5, "course 5;wanes 1;@wanes ");
    fault(5, "course 5;takes all;dark 3; @takes 5");
    StringBuilder bearers = new StringBuilder("course 9;");
    StringBuilder houses = new StringBuilder("course 9;");
    for (int i = 0; i < 8; i++) {
      char c = (char) ('a' + i);
      bearers.append("bearer ").append(c).append(" at 9 pace 9;");
      houses.append("house ").append(c).append(" at 9 care 9;");
    }
    fault(5, bearers + "@bearer a");
    fault(5, houses + "@house 5");
    course(10, bearers + "house x at 0 care 1;");
  }

  private static void theFirstFaultCounts() {
    fault(2, "course @4;bearer bearer;");
    fault(1, "course 5;@what 100;");
    fault(3, "course 5;bearer a at 0 pace 1;bearer @a at 9 pace 0;");
    fault(1, "course 5;dark 1111@1;dark 0;");
  }

  private static int read(PassedDark x, String text) {
    feed(x, text);
    return x.course();
  }

  /** Nothing of a course that was read ahead of another one is left in that. */
  private static void oneBehindTheOther() {
    PassedDark x = new PassedDark();
    for (int i = 0; i < 4; i++) {
      due("a course with all", read(x, "course 9;takes 1=2;wanes 7+0*strength;light 3;trip 40;dark 20;"
          + "bearer a at 4 pace 1;house h at 5 care 1;bearer bcdefg at 6 pace 2;"), 9);
      due("light(0,0)", x.light(0, 0), 3);
      due("later(1,1)", x.later(1, 1), 7);
      due("bearer(1,3)", x.bearer(1, 3), 0);
      x.aside(1, 1);
      x.hours(2);
      due("a fault with much open", read(x, "course 9;light ((((((1"), -1);
      due("a fault with more open", read(x, "course 9;light ((((((("), -1);
      due("fault(0)", x.fault(0), 4);
      due("has(4) stays", x.has(4), 6);
      due("a course with nothing", read(x, "course 5;"), 1);
      int[] has = {5, 0, 0, 0, 0, 50, -1, 0, 0, 0, 0, 0};
      for (int what = 0; what < has.length; what++) {
        due("has(" + what + ") of nothing", x.has(what), has[what]);
      }
      due("light(0,0) of nothing", x.light(0, 0), 0);
      due("letter(0,0,0) of nothing", x.letter(0, 0, 0), -1);
      due("a course with little", read(x, "course 9;bearer bc at 1 pace 5;light((((((2))))));"), 3);
      due("has(6)", x.has(6), 0);
      due("bearer(0,2)", x.bearer(0, 2), 0);
      due("bearer(0,3)", x.bearer(0, 3), 1);
      due("letter(0,0,2)", x.letter(0, 0, 2), 0);
      due("later(1,1)", x.later(1, 1), 48);
      due("chance(2)", x.chance(2), 0);
    }
    due("status(1)", x.status(1), 8);
  }

  private static void longCoursesBehindOneAnother() {
    PassedDark x = new PassedDark();
    StringBuilder ones = new StringBuilder("course 9;light 0-396");
    for (int i = 0; i < 400; i++) {
      ones.append("+1");
    }
    for (int i = 0; i < 10; i++) {
      due("a long course", read(x, ones + ";"), 2);
      due("light(0,0) of a long course", x.light(0, 0), 4);
    }
  }

  private static void allAsAtFirst() {
    PassedDark x = new PassedDark();
    x.seed(7);
    feed(x, "course 9;bearer a at 2 pace 1;bearer b at 4 pace 1;house h at 3 care 1;trip 50;");
    due("course()", x.course(), 5);
    x.aside(1, 1);
    int first = x.chance(9);
    feed(x, new String(new char[] {0, 0, 1}));
    due("see()", x.see(), 1);
    x.end(0);
    x.course();
    due("fault(0)", x.fault(0), 1);
    feed(x, "course 9;bearer a at 2 pace 1;bearer b at 4 pace 1;house h at 3 care 1;trip 50;");
    due("course()", x.course(), 5);
    due("fault(0)", x.fault(0), 0);
    due("fault(1)", x.fault(1), -1);
    int[] has = {9, 2, 1, 0, 2, 50, 0, 0, 0, 0, 0, 0};
    for (int what = 0; what < has.length; what++) {
      due("has(" + what + ") of a second course", x.has(what), has[what]);
    }
    due("bearer(1,2)", x.bearer(1, 2), 0);
    due("undo() into the first course", x.undo() ? 1 : 0, 0);
    due("kept(0,0)", x.kept(0, 0), -1);
    due("status(1) stays", x.status(1), 1);
    // The seed stays: the draws go on where they were.
    PassedDark y = new PassedDark();
    y.seed(7);
    feed(y, "course 9;bearer a at 2 pace 1;bearer b at 4 pace 1;house h at 3 care 1;trip 50;");
    y.course();
    y.aside(1, 1);
    due("chance(9)", y.chance(9), first);
    due("chance(9) by the seed that stays", x.chance(9), y.chance(9));
  }
}
