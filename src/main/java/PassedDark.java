/** A torch race told as a text, and what can be asked and done about it. */
public final class PassedDark {
  public static final int NONE = -1;
  public static final long NOTHING = -1000000000000000L;

  private final Tape tape = new Tape();
  private final Question question = new Question(tape);
  private final Runner runner = new Runner();
  private final Ahead ahead = new Ahead(runner);
  private final Past past = new Past();
  private final Picture picture = new Picture();
  private final State now = new State();
  private final int[] refused = new int[6];
  // Two courses change places, so that a text with a fault leaves the one that stands as it is.
  private Course held = new Course(tape);
  private Course spare = new Course(tape);
  private boolean there = false;
  private long draws = 1;
  private int faultCode = 0;
  private int faultPlace = NONE;

  public PassedDark() {
  }

  public int feed(int a, int b, int c, int d, int e) {
    if (tape.length + 20 > Tape.ROOM) {
      return refuse(0);
    }
    tape.append(a);
    tape.append(b);
    tape.append(c);
    tape.append(d);
    tape.append(e);
    return tape.length;
  }

  public boolean end(int n) {
    if (n < 0 || n > tape.length) {
      return refuseAct(0);
    }
    tape.length = n;
    return true;
  }

  public int course() {
    spare.read();
    keepFault();
    tape.length = 0;
    if (faultCode != 0) {
      return refuse(1);
    }
    Course told = spare;
    spare = held;
    held = told;
    there = true;
    now.begin(held);
    past.clear();
    ahead.forget();
    return held.statements;
  }

  public int fault(int what) {
    return what == 0 ? faultCode : what == 1 ? faultPlace : NONE;
  }

  public int has(int what) {
    if (!there) {
      return what >= 0 && what <= 11 && what != 6 ? 0 : NONE;
    }
    switch (what) {
      case 0: return held.miles;
      case 1: return held.bearers;
      case 2: return held.houses;
      case 3: return now.hour;
      case 4: return now.mile;
      case 5: return now.strength;
      case 6: return now.bearer;
      case 7: return Integer.bitCount(now.passed);
      case 8: return now.isThrough(held) ? 1 : 0;
      case 9: return past.told();
      case 10: return ahead.rows;
      case 11: return past.acts;
      default: return NONE;
    }
  }

  public int letter(int kind, int which, int k) {
    if (!there || k < 0 || k >= Course.LETTERS) {
      return NONE;
    }
    if (kind == 0 && held.hasBearer(which)) {
      return held.letterAt(which, k);
    }
    if (kind == 1 && held.hasHouse(which)) {
      return held.letterAt(Course.EACH + which, k);
    }
    return NONE;
  }

  public int bearer(int bearer, int what) {
    if (!there || !held.hasBearer(bearer)) {
      return NONE;
    }
    switch (what) {
      case 0: return now.miles[bearer];
      case 1: return held.paces[bearer];
      case 2: return now.isAside(bearer) ? 1 : 0;
      case 3: return takesNow(bearer) ? 1 : 0;
      default: return NONE;
    }
  }

  public int house(int house, int what) {
    if (!there || !held.hasHouse(house)) {
      return NONE;
    }
    switch (what) {
      case 0: return held.sites[house];
      case 1: return held.cares[house];
      case 2: return now.hasPassed(house) ? 1 : 0;
      default: return NONE;
    }
  }

  public int light(int mile, int n) {
    if (!there || !held.hasMile(mile) || !comes(n, 0, Ahead.MOST)) {
      return NONE;
    }
    return held.lightAt(mile, now.hour + n);
  }

  public int kept(int k, int what) {
    return past.keptAt(k, what);
  }

  public int later(int n, int what) {
    if (!there || what < 0 || what > 3 || !comes(n, 0, Ahead.MOST)) {
      return NONE;
    }
    return ahead.behind(held, now, n, what);
  }

  public int through() {
    return there ? ahead.hoursToThrough(held, now) : NONE;
  }

  public int few() {
    return there ? ahead.fewest(held, now) : NONE;
  }

  public int post(int bearer, int what) {
    if (!there || !held.hasBearer(bearer) || bearer == now.bearer || what < 0 || what > 1) {
      return NONE;
    }
    return ahead.bestPost(held, now, bearer, what);
  }

  public int change(int what) {
    if (!there || what < 0 || what > 2) {
      return NONE;
    }
    return ahead.bestChange(held, now, what);
  }

  public int least() {
    return there ? ahead.leastStrength(held, now) : NONE;
  }

  public int odds() {
    return there && comes(1, 1, 1) ? ahead.rowsAlight(held, now) : NONE;
  }

  public int see() {
    boolean good = there && ahead.readSeen(tape, held);
    tape.length = 0;
    return good ? ahead.rows : refuse(1);
  }

  public int strengths(int k) {
    if (!there) {
      return NONE;
    }
    ahead.sift(held, now);
    return ahead.strengthLeft(k);
  }

  public int tells(int what) {
    if (!there || what < 0 || what > 2) {
      return NONE;
    }
    ahead.sift(held, now);
    return ahead.mostTelling(held, now, what);
  }

  public boolean place(int bearer, int mile) {
    if (!waits(bearer) || !held.hasMile(mile) || now.miles[bearer] == mile) {
      return refuseAct(2);
    }
    past.remember(now);
    now.miles[bearer] = mile;
    return true;
  }

  public boolean aside(int bearer, int on) {
    if (!waits(bearer) || on < 0 || on > 1 || now.isAside(bearer) == (on == 1)) {
      return refuseAct(2);
    }
    past.remember(now);
    now.asides ^= 1 << bearer;
    return true;
  }

  public boolean kindle(int strength) {
    if (!there || strength < 0 || strength > State.STRONGEST || strength == now.strength) {
      return refuseAct(2);
    }
    past.remember(now);
    now.strength = strength;
    return true;
  }

  public int hours(int n) {
    if (!comes(n, 1, 100)) {
      return refuse(3);
    }
    past.remember(now);
    int run = 0;
    for (int i = 0; i < n; i++) {
      run += runKept();
    }
    return run;
  }

  public int chance(int n) {
    if (!comes(n, 1, 100)) {
      return refuse(3);
    }
    past.remember(now);
    int trips = 0;
    for (int i = 0; i < n; i++) {
      if (draw(100) < held.trip) {
        trips++;
        now.strength = Math.max(0, now.strength - draw(10));
      }
      runKept();
    }
    return trips;
  }

  public boolean undo() {
    return past.goBack(now) || refuseAct(4);
  }

  public boolean seed(int seed) {
    if (seed < 0) {
      return refuseAct(5);
    }
    draws = seed;
    return true;
  }

  public long ask() {
    if (!there) {
      tape.length = 0;
      return NOTHING;
    }
    question.read();
    keepFault();
    tape.length = 0;
    return faultCode == 0 ? question.answer(held, now) : NOTHING;
  }

  public int image() {
    if (there) {
      picture.draw(held, now);
    } else {
      picture.drawNothing();
    }
    return picture.size;
  }

  public int octet(int k) {
    return picture.byteAt(k);
  }

  public boolean on() {
    boolean good = there && picture.isOf(held, tape);
    if (good) {
      picture.apply(held, tape, now);
      past.clear();
    }
    tape.length = 0;
    return good || refuseAct(5);
  }

  public int status(int what) {
    return what >= 0 && what < refused.length ? refused[what] : NONE;
  }

  private void keepFault() {
    faultCode = tape.fault;
    faultPlace = tape.place;
  }

  private int refuse(int sort) {
    if (sort >= 0 && sort < refused.length) {
      refused[sort]++;
    }
    return NONE;
  }

  private boolean refuseAct(int sort) {
    refuse(sort);
    return false;
  }

  /** Whether n is one of the numbers asked for, and so many hours come yet. */
  private boolean comes(int n, int fewest, int most) {
    return there && n >= fewest && n <= most && n <= State.LAST_HOUR - now.hour;
  }

  private boolean waits(int bearer) {
    return there && held.hasBearer(bearer) && bearer != now.bearer;
  }

  private boolean takesNow(int bearer) {
    if (!held.hasBearer(bearer)) {
      return false;
    }
    int light = held.lightAt(now.miles[bearer], now.hour);
    return runner.wouldTake(held, now, bearer, light);
  }

  private int runKept() {
    int hour = now.hour;
    int who = now.bearer;
    int run = runner.runHour(held, now);
    if (run > 0) {
      past.keep(hour, who, now.mile, now.strength);
    }
    return run;
  }

  private int draw(int below) {
    draws = (1103515245L * draws + 12345L) & 0x7fffffffL;
    return below > 0 ? (int) (draws / 64 % below) : 0;
  }

  /**
   * The words of the language by their codes. What has a value in a formula comes first, so that
   * its code is its place among the values; then the other own words, then those that a question
   * begins with.
   */
  static final class Words {
    static final int HOUR = 0;
    static final int MILE = 1;
    static final int STRENGTH = 2;
    static final int LIGHT = 3;
    static final int PACE = 4;
    static final int HANDED = 5;
    static final int RUN = 6;
    static final int FAR = 7;
    static final int NUMBER = 8;
    static final int CARE = 9;
    static final int PASSED = 10;
    static final int VALUES = 11;
    static final int LIT = 11;
    static final int FROM = 12;
    static final int NOT = 13;
    static final int ALL = 14;
    static final int OR = 15;
    static final int AND = 16;
    static final int MIN = 17;
    static final int MAX = 18;
    static final int COURSE = 19;
    static final int BEARER = 20;
    static final int AT = 21;
    static final int HOUSE = 22;
    static final int DARK = 23;
    static final int WANES = 24;
    static final int TAKES = 25;
    static final int TRIP = 26;
    static final int OWN = 27;
    static final int FIRST = 27;
    static final int LAST = 28;
    static final int OFTEN = 29;
    static final int TOTAL = 30;
    static final int MOST = 31;
    static final int LEAST = 32;
    private static final String TEXT = "hour mile strength light pace handed run far number care passed lit from not all or and min max course bearer at house dark wanes takes trip first last often total most least ";

    static int codeOf(byte[] bytes, int from, int behind) {
      int code = 0;
      int at = from;
      boolean same = true;
      for (int i = 0; i < TEXT.length(); i++) {
        char sign = TEXT.charAt(i);
        if (sign != ' ') {
          same = same && at >= 0 && at < behind && at < bytes.length && bytes[at] == sign;
          at++;
        } else if (same && at == behind) {
          return code;
        } else {
          code++;
          at = from;
          same = true;
        }
      }
      return NONE;
    }
  }

  /** The bytes fed, and the words, numbers and signs that they are read as, one at a time. */
  static final class Tape {
    static final int ROOM = 1600;
    // A sign's kind is its own byte, so these are below 0.
    static final int END = -1;
    static final int WORD = -2;
    static final int NUMBER = -3;
    static final int BROKEN = -4;
    static final int DIGITS = 4;
    static final int LARGEST = 9999;

    final byte[] bytes = new byte[ROOM];
    int length = 0;
    int kind = END;
    int start = 0;
    int behind = 0;
    int value = 0;
    int fault = 0;
    int place = NONE;

    void append(int four) {
      for (int shift = 24; shift >= 0; shift -= 8) {
        if (length >= 0 && length < bytes.length) {
          bytes[length] = (byte) (four >> shift);
          length++;
        }
      }
    }

    int byteAt(int k) {
      return k >= 0 && k < length && k < bytes.length ? bytes[k] & 255 : NONE;
    }

    void begin() {
      kind = END;
      behind = 0;
      fault = 0;
      place = NONE;
      next();
    }

    /** The first fault stays; nothing is read behind it. */
    void fail(int code, int at) {
      if (fault == 0) {
        fault = code;
        place = at;
        kind = BROKEN;
      }
    }

    void failHere(int code) {
      fail(code, start);
    }

    void next() {
      if (fault != 0) {
        return;
      }
      int border = kind == WORD || kind == NUMBER ? behind : NONE;
      start = behind;
      while (start < length && isBlank(byteAt(start))) {
        start++;
      }
      int sign = byteAt(start);
      behind = sign == NONE ? start : start + 1;
      kind = sign == NONE ? END : sign;
      if (isLetter(sign)) {
        while (behind < length && isLetter(byteAt(behind))) {
          behind++;
        }
        kind = WORD;
        value = Words.codeOf(bytes, start, behind);
      } else if (isDigit(sign)) {
        value = sign - '0';
        while (behind < length && isDigit(byteAt(behind))) {
          // More digits are a fault in any case.
          value = Math.min(10 * value + byteAt(behind) - '0', LARGEST);
          behind++;
        }
        kind = NUMBER;
      }
      if (start == border && (kind == WORD || kind == NUMBER)) {
        kind = BROKEN;
      }
    }

    boolean isWord(int word) {
      return kind == WORD && value == word;
    }

    void expect(int sign) {
      if (kind == sign) {
        next();
      } else {
        failHere(1);
      }
    }

    void expectWord(int word) {
      if (isWord(word)) {
        next();
      } else {
        failHere(1);
      }
    }

    int expectNumber(int least, int most) {
      if (kind != NUMBER) {
        failHere(1);
        return 0;
      }
      if (behind - start > DIGITS) {
        fail(1, start + DIGITS);
        return 0;
      }
      int told = value;
      if (told < least || told > most) {
        failHere(2);
        return 0;
      }
      next();
      return told;
    }

    private static boolean isBlank(int sign) {
      return sign == 10 || sign == 32;
    }

    private static boolean isLetter(int sign) {
      return sign >= 'a' && sign <= 'z';
    }

    private static boolean isDigit(int sign) {
      return sign >= '0' && sign <= '9';
    }
  }

  /**
   * Formulas behind one another, operands ahead of their operators, and a heap on which they are
   * worked out. A number stands as itself, what is done (a word's code or a sign) as -1 less it.
   */
  static final class Script {
    private static final int HEAP = 64;
    private static final int MOST = 1000000;
    private final int[] code = new int[Tape.ROOM];
    private final int[] heap = new int[HEAP];
    int size = 0;
    private int at = 0;
    private int stop = 0;
    private int top = 0;
    int asked = NONE;

    void put(int number) {
      if (size >= 0 && size < code.length) {
        code[size] = number;
        size++;
      }
    }

    void putDone(int what) {
      put(-1 - what);
    }

    void start(int from, int behind) {
      at = Math.max(0, from);
      stop = Math.min(behind, code.length);
      top = 0;
    }

    /**
     * Works to the end (asked is NONE), or to a word that asks for more than values (asked is that
     * word, whose answer is to be pushed): what is on top.
     */
    int work(int[] values) {
      asked = NONE;
      while (at < stop && asked == NONE) {
        int what = -1 - code[at];
        at++;
        if (what < 0) {
          push(-1 - what);
        } else if (what < Words.VALUES) {
          push(what < values.length ? values[what] : 0);
        } else if (what == Words.LIT || what == Words.FROM) {
          asked = what;
        } else if (what == Words.ALL) {
          push(1);
        } else if (what == Words.NOT) {
          push(1 - pop());
        } else {
          int right = pop();
          push(joined(what, pop(), right));
        }
      }
      return pop();
    }

    void push(int value) {
      if (top >= 0 && top < heap.length) {
        heap[top] = value;
        top++;
      }
    }

    private int pop() {
      if (top <= 0 || top > heap.length) {
        return 0;
      }
      top--;
      return heap[top];
    }

    private static int joined(int what, int left, int right) {
      switch (what) {
        case Words.OR: return left | right;
        case Words.AND: return left & right;
        case Words.MIN: return Math.min(left, right);
        case Words.MAX: return Math.max(left, right);
        case '<': return left < right ? 1 : 0;
        case '>': return left > right ? 1 : 0;
        case '=': return left == right ? 1 : 0;
        case '+': return limited(left + (long) right);
        case '-': return limited(left - (long) right);
        case '*': return limited(left * (long) right);
        case '/': return right == 0 ? 0 : Math.floorDiv(left, right);
        default: return 0;
      }
    }

    private static int limited(long value) {
      return value > MOST ? MOST : value < -MOST ? -MOST : (int) value;
    }
  }

  /**
   * Reads a TEST or a SUM from the tape into a script. Every way back into a method that is open
   * goes through opens(), which keeps them few.
   */
  static final class Grammar {
    private static final int DEEPEST = 6;
    private final Tape tape;
    private final Script script;
    private int allowed = 0;
    private int open = 0;

    Grammar(Tape tape, Script script) {
      this.tape = tape;
      this.script = script;
    }

    /** The words allowed as a PART have a bit each, by their codes. */
    void begin(int words) {
      allowed = words;
      open = 0;
    }

    private void test() {
      both();
      for (int i = 0; i < Tape.ROOM && tape.isWord(Words.OR); i++) {
        tape.next();
        both();
        script.putDone(Words.OR);
      }
    }

    private void both() {
      fact();
      for (int i = 0; i < Tape.ROOM && tape.isWord(Words.AND); i++) {
        tape.next();
        fact();
        script.putDone(Words.AND);
      }
    }

    private void fact() {
      if (tape.isWord(Words.NOT)) {
        if (opens()) {
          fact();
          open--;
          script.putDone(Words.NOT);
        }
      } else if (tape.kind == '[') {
        if (opens()) {
          test();
          tape.expect(']');
          open--;
        }
      } else if (tape.isWord(Words.ALL)) {
        tape.next();
        script.putDone(Words.ALL);
      } else {
        sum();
        int sign = tape.kind;
        if (sign == '<' || sign == '>' || sign == '=') {
          tape.next();
          sum();
          script.putDone(sign);
        } else {
          tape.failHere(1);
        }
      }
    }

    private void sum() {
      product();
      for (int i = 0; i < Tape.ROOM && (tape.kind == '+' || tape.kind == '-'); i++) {
        int sign = tape.kind;
        tape.next();
        product();
        script.putDone(sign);
      }
    }

    private void product() {
      part();
      for (int i = 0; i < Tape.ROOM && (tape.kind == '*' || tape.kind == '/'); i++) {
        int sign = tape.kind;
        tape.next();
        part();
        script.putDone(sign);
      }
    }

    private void part() {
      if (tape.kind == Tape.NUMBER) {
        script.put(tape.expectNumber(0, Tape.LARGEST));
      } else if (tape.kind == '(') {
        if (opens()) {
          sum();
          tape.expect(')');
          open--;
        }
      } else if (tape.isWord(Words.MIN) || tape.isWord(Words.MAX)) {
        pair(tape.value);
      } else if (tape.kind == Tape.WORD && allows(tape.value)) {
        named(tape.value);
      } else {
        tape.failHere(1);
      }
    }

    private void pair(int word) {
      tape.next();
      if (tape.kind != '(') {
        tape.failHere(1);
      } else if (opens()) {
        sum();
        tape.expect(',');
        sum();
        tape.expect(')');
        open--;
        script.putDone(word);
      }
    }

    private void named(int word) {
      if (word < Words.VALUES) {
        tape.next();
        script.putDone(word);
      } else if (opens()) {
        part();
        open--;
        script.putDone(word);
      }
    }

    private boolean allows(int word) {
      return word >= 0 && word <= Words.FROM && (allowed >> word & 1) == 1;
    }

    /** Goes behind what opens here, unless too many are open at once. */
    private boolean opens() {
      if (open >= DEEPEST) {
        tape.failHere(4);
        return false;
      }
      open++;
      tape.next();
      return true;
    }
  }

  /** What a course's text tells; it stays as it is read. */
  static final class Course {
    static final int FARTHEST = 99;
    static final int EACH = 8;
    static final int LETTERS = 6;
    static final int LIGHT = 0;
    static final int WANES = 1;
    static final int TAKES = 2;
    private static final int FORMULAS = 3;
    private static final int STATEMENTS = 60;
    private static final int BRIGHTEST = 9;
    // The words that may stand in light, wanes, takes.
    private static final int[] WORDS = {
      1 << Words.HOUR | 1 << Words.MILE,
      1 << Words.HOUR | 1 << Words.STRENGTH | 1 << Words.LIGHT | 1 << Words.PACE
          | 1 << Words.HANDED | 1 << Words.RUN,
      1 << Words.HOUR | 1 << Words.STRENGTH | 1 << Words.LIGHT | 1 << Words.PACE | 1 << Words.FAR
    };

    int statements = 0;
    int miles = 0;
    int bearers = 0;
    int houses = 0;
    int dark = 0;
    int trip = 0;
    final int[] starts = new int[EACH];
    final int[] paces = new int[EACH];
    final int[] sites = new int[EACH];
    final int[] cares = new int[EACH];
    // What the formulas' words stand for while one is worked out.
    final int[] values = new int[Words.VALUES];
    // The bearers' names, then the houses'; 0 behind a name's end.
    private final int[] names = new int[2 * EACH * LETTERS];
    final Script script = new Script();
    private final Tape tape;
    private final Grammar grammar;
    // Where each formula begins and ends in the script; one that has not been told ends at 0.
    private final int[] begins = new int[FORMULAS];
    private final int[] ends = new int[FORMULAS];

    Course(Tape tape) {
      this.tape = tape;
      grammar = new Grammar(tape, script);
    }

    boolean hasMile(int mile) {
      return mile >= 0 && mile <= miles;
    }

    boolean hasBearer(int bearer) {
      return bearer >= 0 && bearer < bearers && bearer < EACH;
    }

    boolean hasHouse(int house) {
      return house >= 0 && house < houses && house < EACH;
    }

    int letterAt(int row, int k) {
      int at = row * LETTERS + k;
      return at >= 0 && at < names.length ? names[at] : NONE;
    }

    int lightAt(int mile, int hour) {
      values[Words.HOUR] = hour;
      values[Words.MILE] = mile;
      start(LIGHT);
      return Math.max(0, Math.min(script.work(values), BRIGHTEST));
    }

    /** The script stands at the beginning of a formula. */
    void start(int formula) {
      if (formula >= 0 && formula < FORMULAS) {
        script.start(begins[formula], ends[formula]);
      }
    }

    void read() {
      clear();
      tape.begin();
      tape.expectWord(Words.COURSE);
      miles = tape.expectNumber(5, FARTHEST);
      tape.expect(';');
      for (statements = 1; statements < STATEMENTS && goesOn(); statements++) {
        int word = tape.kind == Tape.WORD ? tape.value : NONE;
        int formula = formulaOf(word);
        int room = roomFor(word, formula);
        if (room <= 0) {
          tape.failHere(room == 0 ? 5 : 1);
        } else if (formula >= 0 && formula < FORMULAS) {
          tape.next();
          begins[formula] = script.size;
          grammar.begin(WORDS[formula]);
          if (formula == TAKES) {
            grammar.test();
          } else {
            grammar.sum();
          }
          ends[formula] = script.size;
        } else {
          tape.next();
          switch (word) {
            case Words.BEARER:
              readBearer();
              break;
            case Words.HOUSE:
              readHouse();
              break;
            case Words.DARK:
              dark = tape.expectNumber(1, State.STRONGEST);
              break;
            default:
              trip = tape.expectNumber(0, 100);
          }
        }
        tape.expect(';');
      }
      if (goesOn()) {
        tape.failHere(5);
      }
      putDefaults();
    }

    private static int formulaOf(int word) {
      switch (word) {
        case Words.LIGHT: return LIGHT;
        case Words.WANES: return WANES;
        case Words.TAKES: return TAKES;
        default: return NONE;
      }
    }

    /** How many more statements a word may begin; NONE if it begins none. */
    private int roomFor(int word, int formula) {
      if (formula >= 0 && formula < FORMULAS) {
        return ends[formula] == 0 ? 1 : 0;
      }
      switch (word) {
        case Words.BEARER: return EACH - bearers;
        case Words.HOUSE: return EACH - houses;
        case Words.DARK: return STATEMENTS;
        case Words.TRIP: return STATEMENTS;
        default: return NONE;
      }
    }

    private boolean goesOn() {
      return tape.fault == 0 && tape.kind != Tape.END;
    }

    private void clear() {
      bearers = 0;
      houses = 0;
      dark = 50;
      trip = 0;
      script.size = 0;
      for (int i = 0; i < FORMULAS; i++) {
        ends[i] = 0;
      }
    }

    private void readBearer() {
      readName(bearers);
      int start = readNumber(Words.AT, 0, miles);
      int pace = readNumber(Words.PACE, 1, 9);
      if (bearers >= 0 && bearers < EACH) {
        starts[bearers] = start;
        paces[bearers] = pace;
        bearers++;
      }
    }

    private void readHouse() {
      readName(EACH + houses);
      int site = readNumber(Words.AT, 0, miles);
      int care = readNumber(Words.CARE, 0, State.STRONGEST);
      if (houses >= 0 && houses < EACH) {
        sites[houses] = site;
        cares[houses] = care;
        houses++;
      }
    }

    private int readNumber(int word, int least, int most) {
      tape.expectWord(word);
      return tape.expectNumber(least, most);
    }

    private void readName(int row) {
      if (tape.kind != Tape.WORD || tape.value >= 0 && tape.value < Words.OWN) {
        tape.failHere(1);
      } else if (tape.behind - tape.start > LETTERS) {
        tape.fail(1, tape.start + LETTERS);
      } else {
        writeName(row);
        if (isTaken(row)) {
          tape.failHere(3);
        }
        tape.next();
      }
    }

    private void writeName(int row) {
      for (int k = 0; k < LETTERS; k++) {
        int at = row * LETTERS + k;
        if (at >= 0 && at < names.length) {
          boolean inside = tape.start + k < tape.behind;
          names[at] = inside ? tape.byteAt(tape.start + k) - 'a' + 1 : 0;
        }
      }
    }

    private boolean isTaken(int row) {
      for (int i = 0; i < EACH; i++) {
        boolean bearersName = hasBearer(i) && isSameName(row, i);
        boolean housesName = hasHouse(i) && isSameName(row, EACH + i);
        if (bearersName || housesName) {
          return true;
        }
      }
      return false;
    }

    private boolean isSameName(int one, int other) {
      for (int k = 0; k < LETTERS; k++) {
        if (letterAt(one, k) != letterAt(other, k)) {
          return false;
        }
      }
      return true;
    }

    private void putDefaults() {
      for (int formula = 0; formula < FORMULAS; formula++) {
        if (ends[formula] == 0) {
          begins[formula] = script.size;
          if (formula == WANES) {
            script.putDone(Words.STRENGTH);
            script.putDone(Words.LIGHT);
            script.putDone('-');
          } else {
            script.put(formula == TAKES ? 1 : 0);
          }
          ends[formula] = script.size;
        }
      }
    }
  }

  /** How all stands in an hour: what acts change, and what hours ahead change in a copy. */
  static final class State {
    static final int STRONGEST = 99;
    static final int LAST_HOUR = 999;
    static final int NUMBERS = 6 + Course.EACH;
    int hour = 0;
    int mile = 0;
    int strength = 0;
    int bearer = NONE;
    int asides = 0;
    int passed = 0;
    final int[] miles = new int[Course.EACH];

    void begin(Course course) {
      hour = 0;
      mile = 0;
      strength = course.dark;
      bearer = NONE;
      asides = 0;
      passed = 0;
      for (int i = 0; i < miles.length; i++) {
        miles[i] = course.starts[i];
        if (course.hasBearer(i) && (bearer == NONE || miles[i] < mile)) {
          bearer = i;
          mile = miles[i];
        }
      }
    }

    void copy(State other) {
      hour = other.hour;
      mile = other.mile;
      strength = other.strength;
      bearer = other.bearer;
      asides = other.asides;
      passed = other.passed;
      for (int i = 0; i < miles.length; i++) {
        miles[i] = other.miles[i];
      }
    }

    /** Writes all as NUMBERS numbers. */
    void store(int[] row, int at) {
      if (at < 0 || at > row.length - NUMBERS) {
        return;
      }
      row[at] = hour;
      row[at + 1] = mile;
      row[at + 2] = strength;
      row[at + 3] = bearer;
      row[at + 4] = asides;
      row[at + 5] = passed;
      System.arraycopy(miles, 0, row, at + 6, miles.length);
    }

    void load(int[] row, int at) {
      if (at < 0 || at > row.length - NUMBERS) {
        return;
      }
      hour = row[at];
      mile = row[at + 1];
      strength = row[at + 2];
      bearer = row[at + 3];
      asides = row[at + 4];
      passed = row[at + 5];
      System.arraycopy(row, at + 6, miles, 0, miles.length);
    }

    boolean isAside(int bearer) {
      return (asides >> bearer & 1) == 1;
    }

    boolean hasPassed(int house) {
      return (passed >> house & 1) == 1;
    }

    boolean isThrough(Course course) {
      return isAlight() && mile == course.miles;
    }

    boolean isAlight() {
      return strength > 0;
    }

    boolean waitsAt(int bearer, int mile) {
      return bearer >= 0 && bearer < miles.length && miles[bearer] == mile && !isAside(bearer);
    }

    /** Of the miles beyond where it is, up to this one. */
    void passHouses(Course course, int goal) {
      for (int i = 0; i < Course.EACH; i++) {
        boolean comesBy = course.hasHouse(i) && course.sites[i] > mile && course.sites[i] <= goal;
        if (comesBy && course.cares[i] <= strength) {
          passed |= 1 << i;
        }
      }
    }

    /** It comes to a mile, where the taker has it from then on, if there is one. */
    void advance(int goal, int taker) {
      if (bearer >= 0 && bearer < miles.length) {
        miles[bearer] = goal;
      }
      mile = goal;
      bearer = taker == NONE ? bearer : taker;
    }

    void swapMiles(int one, int other) {
      if (one >= 0 && one < miles.length && other >= 0 && other < miles.length) {
        int kept = miles[one];
        miles[one] = miles[other];
        miles[other] = kept;
      }
    }
  }

  /** Lets an hour go by, in the state that stands or in a copy of it. */
  static final class Runner {
    /** How many miles it is run. */
    int runHour(Course course, State state) {
      int run = 0;
      int runner = state.bearer;
      if (course.hasBearer(runner) && state.isAlight() && !state.isThrough(course)) {
        int last = Math.min(state.mile + course.paces[runner], course.miles);
        int mile = state.mile;
        int taker = NONE;
        while (mile < last && taker == NONE) {
          mile++;
          for (int i = 0; i < Course.EACH && taker == NONE; i++) {
            if (i != runner && course.hasBearer(i) && state.waitsAt(i, mile)) {
              int light = course.lightAt(mile, state.hour);
              taker = wouldTake(course, state, i, light) ? i : NONE;
            }
          }
        }
        run = mile - state.mile;
        state.passHouses(course, mile);
        state.advance(mile, taker);
        int light = course.lightAt(mile, state.hour);
        state.strength = waned(course, state, runner, taker, run, light);
      }
      state.hour = Math.min(state.hour + 1, State.LAST_HOUR);
      return run;
    }

    /** light is how light it is where the bearer waits. */
    boolean wouldTake(Course course, State state, int bearer, int light) {
      if (!course.hasBearer(bearer)) {
        return false;
      }
      int[] values = course.values;
      values[Words.HOUR] = state.hour;
      values[Words.LIGHT] = light;
      values[Words.STRENGTH] = state.strength;
      values[Words.PACE] = course.paces[bearer];
      values[Words.FAR] = Math.abs(state.miles[bearer] - state.mile);
      course.start(Course.TAKES);
      return course.script.work(values) != 0;
    }

    private static int waned(
        Course course, State state, int runner, int taker, int run, int light) {
      if (!course.hasBearer(runner)) {
        return state.strength;
      }
      int[] values = course.values;
      values[Words.HOUR] = state.hour;
      values[Words.LIGHT] = light;
      values[Words.STRENGTH] = state.strength;
      values[Words.PACE] = course.paces[runner];
      values[Words.HANDED] = taker != NONE ? 1 : 0;
      values[Words.RUN] = run;
      course.start(Course.WANES);
      return Math.max(0, Math.min(course.script.work(values), State.STRONGEST));
    }
  }

  /** What is found out by letting hours go by in a copy of the state. */
  static final class Ahead {
    static final int MOST = 60;
    private static final int SEEN_AHEAD = 30;
    private static final int SEEN_ROWS = 16;
    private final Runner runner;
    private final State start = new State();
    private final State trial = new State();
    int rows = 0;
    private final int[] seenHours = new int[SEEN_ROWS];
    private final int[] seenHouses = new int[SEEN_ROWS];
    private final int[] seenFlags = new int[SEEN_ROWS];
    private final boolean[] fitting = new boolean[State.STRONGEST + 1];
    private int left = 0;
    private final int[] passers = new int[SEEN_AHEAD * Course.EACH];

    Ahead(Runner runner) {
      this.runner = runner;
    }

    void forget() {
      rows = 0;
    }

    int behind(Course course, State now, int n, int what) {
      trial.copy(now);
      for (int i = 0; i < n && i < MOST; i++) {
        runner.runHour(course, trial);
      }
      switch (what) {
        case 0: return trial.mile;
        case 1: return trial.strength;
        case 2: return trial.bearer;
        case 3: return trial.passed;
        default: return NONE;
      }
    }

    /** The trial stands where it is through behind these hours. */
    int hoursToThrough(Course course, State from) {
      trial.copy(from);
      int most = Math.min(MOST, State.LAST_HOUR - from.hour);
      for (int n = 0; n < most; n++) {
        if (trial.isThrough(course)) {
          return n;
        }
        runner.runHour(course, trial);
      }
      return trial.isThrough(course) ? Math.max(0, most) : NONE;
    }

    int fewest(Course course, State now) {
      start.copy(now);
      int few = NONE;
      int all = (1 << course.bearers) - 1;
      int having = now.bearer >= 0 ? 1 << now.bearer : 0;
      for (int bits = 0; bits <= all; bits++) {
        boolean waiting = (bits & (now.asides | having)) == 0;
        boolean fewer = few == NONE || Integer.bitCount(bits) < Integer.bitCount(few);
        if (waiting && fewer) {
          start.asides = all & ~bits;
          if (hoursToThrough(course, start) != NONE) {
            few = bits;
          }
        }
      }
      return few;
    }

    int bestPost(Course course, State now, int bearer, int what) {
      if (!course.hasBearer(bearer)) {
        return NONE;
      }
      start.copy(now);
      int best = 0;
      int post = NONE;
      for (int mile = 0; mile <= course.miles; mile++) {
        start.miles[bearer] = mile;
        if (hoursToThrough(course, start) != NONE && trial.strength > best) {
          best = trial.strength;
          post = mile;
        }
      }
      return post == NONE || what == 0 ? post : best;
    }

    int bestChange(Course course, State now, int what) {
      start.copy(now);
      int best = hoursToThrough(course, start) == NONE ? 0 : trial.strength;
      int less = NONE;
      int other = NONE;
      for (int i = 0; i < course.bearers; i++) {
        for (int j = i + 1; j < course.bearers; j++) {
          if (i != now.bearer && j != now.bearer) {
            start.swapMiles(i, j);
            if (hoursToThrough(course, start) != NONE && trial.strength > best) {
              best = trial.strength;
              less = i;
              other = j;
            }
            start.swapMiles(i, j);
          }
        }
      }
      return what == 0 ? less : what == 1 ? other : best;
    }

    int leastStrength(Course course, State now) {
      start.copy(now);
      for (int strength = 1; strength <= State.STRONGEST; strength++) {
        start.strength = strength;
        if (hoursToThrough(course, start) != NONE) {
          return strength;
        }
      }
      return NONE;
    }

    int rowsAlight(Course course, State now) {
      int tripping = 0;
      for (int less = 0; less < 10; less++) {
        tripping += alight(course, now, less);
      }
      return (100 - course.trip) * 10 * alight(course, now, 0) + course.trip * tripping;
    }

    /** 1 if it is not out behind an hour ahead of which it is so much less. */
    private int alight(Course course, State now, int less) {
      trial.copy(now);
      trial.strength = Math.max(0, now.strength - less);
      runner.runHour(course, trial);
      return trial.strength > 0 ? 1 : 0;
    }

    boolean readSeen(Tape tape, Course course) {
      int told = tape.length / 3;
      if (tape.length % 3 != 0 || told < 1 || told > SEEN_ROWS) {
        return false;
      }
      for (int i = 0; i < told; i++) {
        boolean good = tape.byteAt(3 * i) <= SEEN_AHEAD
            && course.hasHouse(tape.byteAt(3 * i + 1)) && tape.byteAt(3 * i + 2) <= 1;
        if (!good) {
          return false;
        }
      }
      for (int i = 0; i < told; i++) {
        seenHours[i] = tape.byteAt(3 * i);
        seenHouses[i] = tape.byteAt(3 * i + 1);
        seenFlags[i] = tape.byteAt(3 * i + 2);
      }
      rows = told;
      return true;
    }

    /** Finds the strengths that are left by what is seen. */
    void sift(Course course, State now) {
      int last = 0;
      for (int i = 0; i < rows && i < SEEN_ROWS; i++) {
        last = Math.max(last, seenHours[i]);
      }
      boolean comes = now.hour + last <= State.LAST_HOUR;
      left = 0;
      for (int strength = 0; strength < fitting.length; strength++) {
        trial.copy(now);
        trial.strength = strength;
        boolean fits = comes && agrees(0);
        for (int n = 1; n <= last && fits; n++) {
          runner.runHour(course, trial);
          fits = agrees(n);
        }
        fitting[strength] = fits;
        left += fits ? 1 : 0;
      }
    }

    private boolean agrees(int n) {
      for (int i = 0; i < rows && i < SEEN_ROWS; i++) {
        if (seenHours[i] == n && trial.hasPassed(seenHouses[i]) != (seenFlags[i] == 1)) {
          return false;
        }
      }
      return true;
    }

    /** The k-th of the strengths left, or how many there are (k NONE). */
    int strengthLeft(int k) {
      int before = 0;
      for (int strength = 0; strength < fitting.length; strength++) {
        if (fitting[strength] && before == k) {
          return strength;
        }
        before += fitting[strength] ? 1 : 0;
      }
      return k == NONE ? left : NONE;
    }

    int mostTelling(Course course, State now, int what) {
      int hours = Math.min(SEEN_AHEAD, State.LAST_HOUR - now.hour);
      countPassers(course, now, hours);
      int best = left + 1;
      int telling = NONE;
      for (int i = 0; i < hours * Course.EACH && i < passers.length; i++) {
        int most = Math.max(passers[i], left - passers[i]);
        if (left > 0 && course.hasHouse(i % Course.EACH) && most < best) {
          best = most;
          telling = i;
        }
      }
      if (telling == NONE) {
        return NONE;
      }
      return what == 0 ? telling / Course.EACH + 1 : what == 1 ? telling % Course.EACH : best;
    }

    /** By how many of the strengths left each house is passed behind 1, 2 .. hours. */
    private void countPassers(Course course, State now, int hours) {
      for (int i = 0; i < passers.length; i++) {
        passers[i] = 0;
      }
      for (int strength = 0; strength < fitting.length; strength++) {
        trial.copy(now);
        trial.strength = strength;
        for (int n = 0; fitting[strength] && n < hours && n < SEEN_AHEAD; n++) {
          runner.runHour(course, trial);
          for (int house = 0; house < Course.EACH; house++) {
            passers[n * Course.EACH + house] += trial.hasPassed(house) ? 1 : 0;
          }
        }
      }
    }
  }

  /** What is kept of the hours run, and the acts that can be undone. */
  static final class Past {
    private static final int TOLD = 40;
    private static final int ACTS = 20;
    private static final int ROW = State.NUMBERS + 1;
    // Acts that are undone take back what they kept, so all rows are held, not the last alone:
    // no more than there can be miles, as each one is of a mile beyond that of the one before.
    private final int[] log = new int[4 * Course.FARTHEST];
    private int logged = 0;
    private final int[] before = new int[ACTS * ROW];
    private int newest = 0;
    int acts = 0;

    void clear() {
      logged = 0;
      acts = 0;
    }

    int told() {
      return Math.min(logged, TOLD);
    }

    void keep(int hour, int who, int mile, int strength) {
      int at = 4 * logged;
      if (at >= 0 && at <= log.length - 4) {
        log[at] = hour;
        log[at + 1] = who;
        log[at + 2] = mile;
        log[at + 3] = strength;
        logged++;
      }
    }

    int keptAt(int k, int what) {
      if (k < 0 || k >= told() || what < 0 || what > 3) {
        return NONE;
      }
      int at = 4 * (logged - told() + k) + what;
      return at >= 0 && at < log.length ? log[at] : NONE;
    }

    void remember(State now) {
      newest = (newest + 1) % ACTS;
      int at = newest * ROW;
      if (at >= 0 && at <= before.length - ROW) {
        now.store(before, at);
        before[at + State.NUMBERS] = logged;
        acts = Math.min(acts + 1, ACTS);
      }
    }

    boolean goBack(State now) {
      int at = newest * ROW;
      if (acts <= 0 || at < 0 || at > before.length - ROW) {
        return false;
      }
      now.load(before, at);
      logged = before[at + State.NUMBERS];
      newest = (newest + ACTS - 1) % ACTS;
      acts--;
      return true;
    }
  }

  /** A question of all houses. */
  static final class Question {
    private static final int ALLOWED = 1 << Words.NUMBER | 1 << Words.MILE | 1 << Words.CARE
        | 1 << Words.PASSED | 1 << Words.FAR | 1 << Words.STRENGTH | 1 << Words.HOUR
        | 1 << Words.LIT | 1 << Words.FROM;
    private final Tape tape;
    private final Script script = new Script();
    private final Grammar grammar;
    private final int[] values = new int[Words.VALUES];
    private int sort = NONE;

    Question(Tape tape) {
      this.tape = tape;
      grammar = new Grammar(tape, script);
    }

    void read() {
      tape.begin();
      sort = tape.kind == Tape.WORD ? tape.value : NONE;
      if (sort < Words.FIRST) {
        tape.failHere(1);
        return;
      }
      tape.next();
      script.size = 0;
      grammar.begin(ALLOWED);
      if (sort <= Words.OFTEN) {
        grammar.test();
      } else {
        grammar.sum();
      }
      if (tape.kind != Tape.END) {
        tape.failHere(1);
      }
    }

    long answer(Course course, State now) {
      long told = sort == Words.FIRST || sort == Words.LAST ? NONE : 0;
      for (int house = 0; house < course.houses && house < Course.EACH; house++) {
        int value = valueOf(course, now, house);
        switch (sort) {
          case Words.FIRST: told = told == NONE && value != 0 ? house : told; break;
          case Words.LAST: told = value != 0 ? house : told; break;
          case Words.OFTEN:
          case Words.TOTAL: told += value; break;
          case Words.MOST: told = house == 0 ? value : Math.max(told, value); break;
          case Words.LEAST: told = house == 0 ? value : Math.min(told, value); break;
          default: break;
        }
      }
      return told;
    }

    private int valueOf(Course course, State now, int house) {
      int site = course.sites[house];
      values[Words.NUMBER] = house;
      values[Words.MILE] = site;
      values[Words.CARE] = course.cares[house];
      values[Words.PASSED] = now.hasPassed(house) ? 1 : 0;
      values[Words.FAR] = Math.abs(site - now.mile);
      values[Words.STRENGTH] = now.strength;
      values[Words.HOUR] = now.hour;
      script.start(0, script.size);
      int told = script.work(values);
      for (int i = 0; i < Tape.ROOM && script.asked != NONE; i++) {
        boolean isLit = script.asked == Words.LIT;
        script.push(isLit ? lit(course, site, told) : from(course, now, site, told));
        told = script.work(values);
      }
      return told;
    }

    private static int lit(Course course, int site, int hour) {
      return hour < 0 || hour > State.LAST_HOUR ? 0 : course.lightAt(site, hour);
    }

    private static int from(Course course, State now, int site, int bearer) {
      return course.hasBearer(bearer) ? Math.abs(site - now.miles[bearer]) : NONE;
    }
  }

  /** An image as bytes: written of a state, or looked through and taken from the tape. */
  static final class Picture {
    private static final int HEAD = 5;
    private static final int NOBODY = 255;
    private final int[] bytes = new int[HEAD + 3 * Course.EACH + 1];
    int size = 0;

    int byteAt(int k) {
      return k >= 0 && k < size && k < bytes.length ? bytes[k] : NONE;
    }

    void drawNothing() {
      drawHead(0, 0, 0, NOBODY);
      finish();
    }

    void draw(Course course, State now) {
      drawHead(now.hour, now.mile, now.strength, now.bearer == NONE ? NOBODY : now.bearer);
      for (int i = 0; i < course.bearers && i < Course.EACH; i++) {
        add(now.miles[i]);
        add(now.isAside(i) ? 1 : 0);
      }
      for (int i = 0; i < course.houses; i++) {
        add(now.hasPassed(i) ? 1 : 0);
      }
      finish();
    }

    /** Whether the tape is an image of this course. */
    boolean isOf(Course course, Tape tape) {
      int length = HEAD + 2 * course.bearers + course.houses + 1;
      if (tape.length != length || tape.byteAt(length - 1) != check(tape, length - 1)) {
        return false;
      }
      boolean good = hourOf(tape) <= State.LAST_HOUR && course.hasMile(tape.byteAt(2))
          && tape.byteAt(3) <= State.STRONGEST && isHolder(course, tape);
      for (int i = 0; i < course.bearers; i++) {
        good = good && course.hasMile(tape.byteAt(HEAD + 2 * i))
            && tape.byteAt(HEAD + 2 * i + 1) <= 1;
      }
      for (int i = HEAD + 2 * course.bearers; i < length - 1; i++) {
        good = good && tape.byteAt(i) <= 1;
      }
      return good;
    }

    /** Only of what isOf has found good. */
    void apply(Course course, Tape tape, State now) {
      now.hour = hourOf(tape);
      now.mile = tape.byteAt(2);
      now.strength = tape.byteAt(3);
      now.bearer = course.bearers == 0 ? NONE : tape.byteAt(4);
      now.asides = 0;
      for (int i = 0; i < course.bearers && i < now.miles.length; i++) {
        now.miles[i] = tape.byteAt(HEAD + 2 * i);
        now.asides |= tape.byteAt(HEAD + 2 * i + 1) << i;
      }
      now.passed = 0;
      for (int i = 0; i < course.houses; i++) {
        now.passed |= tape.byteAt(HEAD + 2 * course.bearers + i) << i;
      }
    }

    private static int hourOf(Tape tape) {
      return 256 * tape.byteAt(0) + tape.byteAt(1);
    }

    private static boolean isHolder(Course course, Tape tape) {
      int who = tape.byteAt(4);
      if (course.bearers == 0) {
        return who == NOBODY;
      }
      return course.hasBearer(who) && tape.byteAt(HEAD + 2 * who) == tape.byteAt(2)
          && tape.byteAt(HEAD + 2 * who + 1) == 0;
    }

    private void drawHead(int hour, int mile, int strength, int who) {
      size = 0;
      add(hour / 256);
      add(hour % 256);
      add(mile);
      add(strength);
      add(who);
    }

    private void add(int value) {
      if (size >= 0 && size < bytes.length) {
        bytes[size] = value;
        size++;
      }
    }

    private void finish() {
      int sum = 199;
      for (int i = 0; i < size && i < bytes.length; i++) {
        sum = (3 * sum + bytes[i]) % 251;
      }
      add(sum);
    }

    private static int check(Tape tape, int behind) {
      int sum = 199;
      for (int i = 0; i < behind; i++) {
        sum = (3 * sum + tape.byteAt(i)) % 251;
      }
      return sum;
    }
  }
}
