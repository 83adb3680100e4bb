/** Promises 1 to 4 at their boundaries: a new object, the text, and what can't be read. A case for each. */
public final class BoundaryTextTests {
  private static final String SEVEN = "s0 1 1 1;s1 2 1 1;s2 3 1 1;s3 4 1 1;s4 5 1 1;s5 6 1 1;s6 0 1 1;";
  private static final String FIVE = "p0 0 0;p0 0 0;p0 0 0;p0 0 0;p0 0 0;";

  public static void main(String[] args) {
    newObject();
    newObjectWithoutAHouse();
    typedBytes();
    fullText();
    clearedText();
    emptyTexts();
    itemsThatMayBe();
    numbersOfAStair();
    numbersOfAPerson();
    numbersOfTheRules();
    tooManyItems();
    illNumbers();
    lettersThatBeginNoItem();
    bytesThatBeginNoToken();
    tokensThatCannotStandThere();
    firstFault();
    textsThatEndTooEarly();
    faultChangesNothing();
    readAnew();
    Case.end();
  }

  private static void newObject() {
    Case.says("As told; no STAIRS, nobody.");
    new Case().then("count(0) = 0", "count(1) = 0");
    new Case().then("stair(0, 0) = BAD", "stair(6, 4) = BAD", "person(0, 0) = BAD", "person(4, 2) = BAD", "bond(0, 1) = BAD");
    new Case().then("falls(0, 0) = BAD", "together(0, 1, 0) = BAD", "throwsDoll(0) = BAD", "sells(0, 1, 1) = BAD",
        "redeems(0) = BAD", "paid(0, 0) = BAD", "coins(9, 0) = BAD", "free(0, 9) = BAD", "mark(0, 0) = NO");
    Case.says("DOLLS: how many may be thrown on a STAIR in a year (0 .. 9; 3 at first).");
    new Case().then("count(2) = 3");
    Case.says("PAIR: HALVES that two who fall together count (0 .. 9; 3 at first).");
    new Case().then("count(3) = 3");
    Case.says("YEAR 0 at first (99 at most).");
    new Case().then("now(0) = 0");
    new Case().then("99 * ends() = 0", "now(0) = 99", "ends() = STATE", "now(0) = 99");
  }

  private static void newObjectWithoutAHouse() {
    Case.says("As told; no STAIRS, nobody.");
    new Case().then("count(4) = 0", "undo() = STATE");
    new Case().then("count(5) = 0", "clear() = 0");
    new Case().then("back(0) = STATE", "back(1) = STATE");
    new Case().then("keep(0) = 0", "back(1) = STATE", "back(0) = 0");
    new Case().then("trace() = 0");
    new Case().then("now(1) = 0", "now(2) = 0", "now(3) = 0", "now(4) = NONE", "now(5) = 0");
    new Case().then("surest(6, 6, 0) = 0", "surest(6, 6, 1) = 0", "surest(6, 6, 2) = NONE");
    new Case().then("surest(0, 6, 0) = NONE", "surest(0, 6, 1) = NONE", "surest(0, 6, 2) = NONE", "bars(0, 6) = 0");
    new Case().then("coins(0, -1) = 0", "coins(99, -1) = 0", "coins(99, -2) = 0");
    new Case().then("who(0, 0, 0, 0) = 1", "who(0, 0, 0, 1) = 0", "who(0, 0, 0, 2) = 0");
    new Case().then("who(1, 0, 0, 0) = 0", "who(1, 0, 0, 1) = 0", "who(1, 0, 0, 2) = 0");
    new Case().then("odds(0, 0) = 1", "odds(0, 1) = 1", "odds(1, 0) = 0", "odds(1, 1) = 1");
    // An object has nothing of another one.
    Case.told("d7;t8;" + SEVEN + FIVE).then("falls(0, 0)", "keep(0)", "mark(5, 0)");
    new Case().then("count(0) = 0", "count(1) = 0", "count(2) = 3", "count(3) = 3", "count(4) = 0", "back(0) = STATE",
        "trace() = 0");
  }

  private static void typedBytes() {
    Case.says("A byte (0 .. 255) comes to THE TEXT: how many it has. BAD; FULL.");
    new Case().then("type(0) = 1", "type(255) = 2", "count(5) = 2");
    new Case().then("type(-1) = BAD", "count(5) = 0");
    new Case().then("type(256) = BAD", "count(5) = 0");
    new Case().then("type(MIN) = BAD", "type(MAX) = BAD", "count(5) = 0");
    // Numbers that would be s, were only their last eight bits looked at.
    new Case().then("type(371) = BAD", "type(-141) = BAD", "count(5) = 0");
    Case all = new Case();
    for (int c = 0; c <= 199; c++) {
      all.then("type(" + c + ") = " + (c + 1));
    }
    Case rest = new Case();
    for (int c = 200; c <= 255; c++) {
      rest.then("type(" + c + ") = " + (c - 199));
    }
  }

  private static void fullText() {
    Case.says("They are a text (200 bytes at most)");
    new Case().then("199 * type(32) = 199", "type(32) = 200", "type(32) = FULL", "count(5) = 200");
    new Case().then("200 * type(32) = 200", "type(0) = FULL", "type(255) = FULL", "count(5) = 200");
    // What is refused does not come to the text in the place of another byte.
    new Case().types(" ".repeat(197) + "d7;").then("type(64) = FULL", "house() = 1", "count(2) = 7", "count(5) = 0");
    Case.items(2, "d7;" + " ".repeat(194) + "t8;");
    Case.fault(199, " ".repeat(199) + "@");
    Case.fault(200, " ".repeat(199) + "d");
    new Case().then("200 * type(32)", "clear() = 200", "type(32) = 1");
    new Case().then("200 * type(32)", "house() = 0", "type(32) = 1");
    new Case().then("200 * type(64)", "house() = -10", "type(32) = FULL", "clear() = 200");
    Case.says("Refused, and nothing changes, the first of these: BAD (a number is not as told, or there is no such thing), STATE (as told), FULL.");
    new Case().then("200 * type(32)", "type(-1) = BAD", "type(256) = BAD", "type(255) = FULL", "count(5) = 200");
  }

  private static void clearedText() {
    Case.says("THE TEXT is empty: how many bytes it had.");
    new Case().then("clear() = 0", "count(5) = 0");
    new Case().types("d").then("clear() = 1", "count(5) = 0", "clear() = 0");
    new Case().then("200 * type(64)", "clear() = 200", "clear() = 0");
    new Case().types("@@").then("clear() = 2", "house() = 0");
    new Case().types("d7").then("clear() = 2").types("t8;").then("house() = 1", "count(2) = 3", "count(3) = 8");
    Case.told("d7;").then("clear() = 0", "count(2) = 7");
    new Case().types("@").then("house() = -10", "clear() = 1", "house() = 0");
    // Only the text is emptied.
    String[] way = {"falls(0, 0)", "keep(0)", "ends()", "mark(5, 0)"};
    Case.leavesAll("s0 1 9 5;s1 2 20 9;p0 3 4;d2;t5;", way, "type(64) = 1", "clear() = 1");
  }

  private static void emptyTexts() {
    Case.says("THE TEXT tells all, and is empty then: how many ITEMS.");
    Case.items(0, "");
    Case.items(0, " ");
    Case.items(0, " ".repeat(200));
    new Case().then("house() = 0", "count(0) = 0", "count(1) = 0", "count(2) = 3", "count(3) = 3");
    Case.told("d7;t8;" + SEVEN + FIVE).then("house() = 0", "count(0) = 0", "count(1) = 0", "count(2) = 3", "count(3) = 3");
    // However often it is read.
    Case.told("d7;t8;" + SEVEN + FIVE).then("house() = 0", "house() = 0", "count(0) = 0", "count(1) = 0", "count(2) = 3", "count(3) = 3");
    new Case().types("d7;t8;@").then("house() = -16", "clear() = 7", "house() = 0", "count(2) = 3", "count(3) = 3");
    Case.items(1, "d7;");
    Case.items(14, "d7;t8;" + SEVEN + FIVE);
    Case.told("d7;").then("count(5) = 0", "house() = 0", "count(2) = 3");
  }

  private static void itemsThatMayBe() {
    Case.says("read byte by byte, blanks (32) between TOKENS");
    Case.items(4, "s0 1 1 0;p0 0 0;d0;t0;");
    Case.items(4, "  s  0  1  1  0  ;  p  0  0  0  ;  d  0  ;  t  0  ;  ");
    Case.items(2, "t0;d0;");
    Case.told("s5 6 99 40;").then("stair(0, 0) = 5", "stair(0, 1) = 6", "stair(0, 2) = 99", "stair(0, 3) = 40");
    // Without a blank between them two numbers are one, so that one is missing.
    Case.fault(1, "s01 9 5;");
    Case.fault(6, "p1 10 ;");
    Case.fault(5, "p1 10;");
    // Other bytes that look blank are none.
    int[] bytes = {0, 9, 10, 11, 12, 13, 31, 33, 127, 133, 160, 255};
    for (int c : bytes) {
      Case.fault(0, (char) c + "d7;");
      Case.fault(1, "d" + (char) c + "7;");
      Case.fault(2, "d7" + (char) c + ";");
      Case.fault(3, "d7;" + (char) c);
    }
  }

  /** Every number from 0 to 110 at a place of an item: what may be is read, anything else is the fault. */
  private static void numbersAt(String ahead, String behind, int least, int most) {
    for (int n = 0; n <= 110; n++) {
      String text = ahead + n + behind;
      if (n < least || n > most) {
        Case.fault(ahead.length(), text);
      } else {
        Case.items(1, text);
      }
    }
  }

  private static void numbersOfAStair() {
    Case.says("6. STAIRS 0 .. (7 of them at most) between two unlike FLOORS: STEPS (1 .. 99), OWES (0 .. 40 HALVES a year).");
    for (int a = 0; a <= 6; a++) {
      for (int b = 0; b <= 6; b++) {
        String text = "s" + a + " " + b + " 1 0;";
        if (a == b) {
          Case.fault(3, text);
        } else {
          Case.told(text).then("stair(0, 0) = " + a, "stair(0, 1) = " + b);
        }
      }
    }
    for (int floor = 7; floor <= 110; floor++) {
      Case.fault(1, "s" + floor + " 0 1 0;");
      Case.fault(3, "s0 " + floor + " 1 0;");
    }
    Case.fault(1, "s7 7 1 0;");
    Case.says("STEPS (1 .. 99)");
    numbersAt("s0 1 ", " 0;", 1, 99);
    Case.told("s0 1 1 0;").then("stair(0, 2) = 1");
    Case.told("s0 1 99 0;").then("stair(0, 2) = 99");
    Case.says("OWES (0 .. 40 HALVES a year)");
    numbersAt("s0 1 1 ", ";", 0, 40);
    Case.told("s0 1 1 0;").then("stair(0, 3) = 0", "stair(0, 4) = 0");
    Case.told("s0 1 1 40;").then("stair(0, 3) = 40", "stair(0, 4) = 40");
  }

  private static void numbersOfAPerson() {
    Case.says("PEOPLE 0 .. (5 of them at most): CHILD (1) or not (0), CARE (0 .. 10), HURT by a fall (0 .. 9).");
    numbersAt("p", " 0 0;", 0, 1);
    numbersAt("p0 ", " 0;", 0, 10);
    numbersAt("p0 0 ", ";", 0, 9);
    Case.told("p0 0 0;").then("person(0, 0) = 0", "person(0, 1) = 0", "person(0, 2) = 0");
    Case.told("p1 10 9;").then("person(0, 0) = 1", "person(0, 1) = 10", "person(0, 2) = 9");
  }

  private static void numbersOfTheRules() {
    Case.says("DOLLS: how many may be thrown on a STAIR in a year (0 .. 9; 3 at first).");
    numbersAt("d", ";", 0, 9);
    Case.told("d0;").then("count(2) = 0", "count(3) = 3");
    Case.told("d9;").then("count(2) = 9", "count(3) = 3");
    Case.says("PAIR: HALVES that two who fall together count (0 .. 9; 3 at first).");
    numbersAt("t", ";", 0, 9);
    Case.told("t0;").then("count(3) = 0", "count(2) = 3");
    Case.told("t9;").then("count(3) = 9", "count(2) = 3");
  }

  private static void tooManyItems() {
    Case.says("(letters that begin no ITEM, an eighth stair, a sixth person, d, t again, B that is A, a NUMBER beyond what it may be, too)");
    Case.items(7, SEVEN);
    Case.told(SEVEN).then("count(0) = 7", "stair(6, 0) = 6", "stair(6, 1) = 0");
    Case.fault(63, SEVEN + "s0 1 1 1;");
    Case.fault(64, SEVEN + " s");
    Case.fault(106, SEVEN + FIVE + "d7; t8; s0 1 1 1;");
    Case.items(5, FIVE);
    Case.told(FIVE).then("count(1) = 5", "person(4, 0) = 0");
    Case.fault(35, FIVE + "p0 0 0;");
    Case.fault(36, FIVE + " p");
    Case.fault(3, "d7;d7;");
    Case.fault(6, "d0;t0;d0;");
    Case.fault(3, "d7;d");
    Case.fault(3, "t8;t8;");
    Case.fault(6, "t0;d0;t0;");
    Case.fault(3, "t8;t");
    // Seven, five, once each: of one text, not of all.
    Case.told("d7;t8;" + FIVE).types("d9;t9;" + FIVE).then("house() = 7", "count(2) = 9", "count(1) = 5");
    Case.told(SEVEN).types(SEVEN).then("house() = 7", "count(0) = 7");
    new Case().types("d7;d7;").then("house() = -13", "clear() = 6").types("d7;").then("house() = 1");
    new Case().types("t8;t8;").then("house() = -13", "clear() = 6").types("t8;").then("house() = 1");
    new Case().types(FIVE + "@").then("house() = -45", "clear() = 36").types(FIVE).then("house() = 5", "count(1) = 5");
    new Case().types(FIVE + "@").then("house() = -45", "clear() = 36", "house() = 0", "count(1) = 0");
    new Case().types(SEVEN + "s").then("house() = -73", "clear() = 64").types(SEVEN).then("house() = 7");
  }

  private static void illNumbers() {
    Case.says("of a byte that begins none, a NUMBER above 99 or with a 0 ahead of others, that TOKEN's");
    Case.items(1, "s0 1 99 0;");
    Case.fault(5, "s0 1 100 0;");
    Case.fault(5, "s0 1 999 0;");
    Case.items(1, "d0;");
    Case.fault(1, "d00;");
    Case.fault(1, "d01;");
    Case.fault(1, "d07;");
    Case.fault(1, "d000;");
    Case.fault(5, "s0 1 09 0;");
    Case.fault(5, "s0 1 099 0;");
    Case.fault(7, "s0 1 9 00;");
    Case.fault(1, "s00 1 1 0;");
    Case.fault(3, "s0 01 1 0;");
    Case.fault(1, "p01 0 0;");
    Case.fault(1, "t03;");
    // Numbers that would be 1, were they counted in 8, 16, 32 or 64 bits.
    String[] wraps = {"257", "65537", "4294967297", "18446744073709551617"};
    for (String n : wraps) {
      Case.fault(1, "d" + n + ";");
      Case.fault(5, "s0 1 " + n + " 0;");
    }
    Case.fault(1, "d" + "9".repeat(199));
    Case.fault(1, "d1" + "0".repeat(198));
    Case.fault(1, "d" + "0".repeat(199));
    // Where no number may stand the fault is there as well.
    Case.fault(0, "100");
    Case.fault(0, "00");
    Case.fault(3, "d7 100;");
    Case.fault(3, "d7;00");
  }

  private static void lettersThatBeginNoItem() {
    Case.says("TOKENS are letters a .. z side by side, NUMBERS and ;");
    for (char c = 'a'; c <= 'z'; c++) {
      boolean begins = c == 's' || c == 'p' || c == 'd' || c == 't';
      Case.fault(begins ? 1 : 0, String.valueOf(c));
      // Side by side they are one token, which begins no item.
      Case.fault(0, "d" + c + "7;");
      Case.fault(0, c + "d7;");
      Case.fault(0, "" + c + c);
      Case.fault(2, "d " + c + "7;");
      // No letter is a number, though those of a, b and c are 97 to 99.
      Case.fault(5, "s0 1 " + c + " 1;");
      Case.fault(2, "d7" + c + ";");
      // Capitals are no letters.
      Case.fault(0, Character.toUpperCase(c) + "7;");
      Case.fault(1, "d" + Character.toUpperCase(c) + ";");
    }
    Case.fault(0, "spdt0 0 0;");
    Case.fault(0, "z".repeat(200));
    Case.fault(3, "d7;sp0 1 1 0;");
  }

  private static boolean isLetter(int c) {
    return c >= 'a' && c <= 'z';
  }

  private static boolean isDigit(int c) {
    return c >= '0' && c <= '9';
  }

  /** Each byte there is, at each place of "d7;" where it may be told from others. */
  private static void bytesThatBeginNoToken() {
    Case.says("of a byte that begins none, a NUMBER above 99 or with a 0 ahead of others, that TOKEN's");
    for (int c = 0; c <= 255; c++) {
      char sign = (char) c;
      if (c != ' ' && !isLetter(c)) {
        Case.fault(0, sign + " d7;");
      }
      if (c != ' ' && !isDigit(c)) {
        Case.fault(isLetter(c) ? 0 : 1, "d" + sign + " 7;");
      }
      if (c != ' ' && c != ';') {
        Case.fault(isDigit(c) ? 1 : 2, "d7" + sign + " ;");
      }
      if (c != ' ') {
        boolean begins = c == 's' || c == 'p' || c == 't';
        Case.fault(begins ? 4 : 3, "d7;" + sign);
      }
    }
    Case.items(1, " d7;");
    Case.items(1, "d 7;");
    Case.items(1, "d7 ;");
    Case.items(1, "d7; ");
  }

  private static void tokensThatCannotStandThere() {
    Case.says("FAULT: the place of the first byte of the first TOKEN that can't stand there");
    Case.fault(0, ";");
    Case.fault(0, "7");
    Case.fault(3, "d7;;");
    Case.fault(3, "d7;7");
    Case.fault(1, "d;");
    Case.fault(3, "d7 7;");
    Case.fault(2, "d7t8;");
    String[] stair = {"s", "0 ", "1 ", "9 ", "5 "};
    String[] person = {"p", "0 ", "9 ", "5 "};
    cutShort(stair);
    cutShort(person);
    Case.fault(9, "s0 1 9 5 7;");
    Case.fault(7, "p0 9 5 7;");
    Case.fault(9, "s0 1 9 5 s0 1 9 5;");
    Case.fault(6, "p0 9 5p0 9 5;");
  }

  /** An item that is ended, or followed by letters, ahead of each of its numbers. */
  private static void cutShort(String[] tokens) {
    String ahead = "";
    for (int i = 0; i + 1 < tokens.length; i++) {
      ahead += tokens[i];
      Case.fault(ahead.length(), ahead + ";");
      Case.fault(ahead.length() + 1, ahead + " x;");
      Case.fault(ahead.length(), ahead + "/;");
    }
  }

  private static void firstFault() {
    Case.says("FAULT: the place of the first byte of the first TOKEN that can't stand there");
    Case.fault(0, "x @");
    Case.fault(0, "@ x");
    Case.fault(3, "s0 0 0 41@");
    Case.fault(5, "s0 1 0 41@");
    Case.fault(1, "s100 00 @;");
    Case.fault(3, "d7;d@");
    Case.fault(2, "d 12345 @");
    Case.fault(8, "d7;t8;  x100");
    // What was read ahead of it, with another fault, is forgotten.
    new Case().types("s").then("house() = -11").types("s0 1 1 1;").then("house() = -10");
    new Case().types("d7;t").then("house() = -14", "clear() = 4").types("tt8;").then("house() = -10");
    // The token's first byte, not the byte by which it becomes wrong.
    Case.fault(4, "d7; tt8;");
    Case.fault(5, "s0 1 100 5;");
  }

  private static void textsThatEndTooEarly() {
    Case.says("the text's length, if it ends too early.");
    String[] items = {"s0 1 99 40;", " s6 5 12 3 ;", "p1 10 9;", " p 0 0 0 ;", "d7;", " t 8 ;"};
    String ahead = "";
    for (int i = 0; i < items.length; i++) {
      Case.items(i, ahead);
      // Blanks ahead of an item are the end of the ones ahead of it.
      int begun = items[i].length() - items[i].stripLeading().length();
      for (int n = 1; n < items[i].length(); n++) {
        String text = ahead + items[i].substring(0, n);
        if (n <= begun) {
          Case.items(i, text);
        } else {
          Case.fault(text.length(), text);
        }
      }
      ahead += items[i];
    }
    Case.items(items.length, ahead);
    Case.fault(1, "d");
    Case.fault(5, "d    ");
    Case.fault(3, "d7 ");
    Case.fault(200, "d" + " ".repeat(199));
    Case.fault(200, "d7" + " ".repeat(198));
  }

  private static void faultChangesNothing() {
    Case.says("-10 less FAULT: nothing changes.");
    String house = "s0 1 9 5;s1 2 20 9;s0 2 3 11;p0 3 4;p1 8 1;d2;t5;";
    String[] way = {"falls(0, 2)", "throwsDoll(0)", "sells(2, 0, 3)", "keep(0)", "ends()", "sells(0, 1, 2)", "throwsDoll(1)",
        "mark(3, 0)", "type(115)", "type(48)", "type(59)"};
    Case.leavesAll(house, way, "house() = -12", "house() = -12");
    // All items but the last are good, and yet none of them is taken.
    Case.told("s0 1 9 5;p1 2 3;d7;t8;").types("s2 3 1 1;s4 5 1 1;p0 0 0;p0 0 0;d1;t1;@").then("house() = -48", "count(0) = 1",
        "count(1) = 1", "count(2) = 7", "count(3) = 8", "count(5) = 39", "stair(0, 0) = 0", "stair(0, 1) = 1",
        "stair(0, 2) = 9", "stair(0, 3) = 5", "stair(0, 4) = 5", "person(0, 0) = 1", "person(0, 1) = 2", "person(0, 2) = 3");
    // The text is there still, and may be gone on with.
    new Case().types("d").then("house() = -11", "type(55) = 2", "house() = -12", "type(59) = 3", "house() = 1", "count(2) = 7");
    new Case().types("s0 1 9 5").then("house() = -18", "count(0) = 0").types(";").then("house() = 1", "count(0) = 1");
  }

  private static void readAnew() {
    Case.says("(Read anew: as told, no BONDS, nothing to be UNDONE, IMAGES are gone.)");
    Case x = Case.told("s0 1 9 5;s1 2 20 9;p0 3 4;").then("falls(0, 0)", "sells(1, 0, 3)", "throwsDoll(1)", "ends()",
        "sells(1, 0, 3)", "throwsDoll(1)", "keep(0)", "keep(1)").types("s0 1 9 5;s1 2 20 9;p0 3 4;").then("house() = 3");
    x.then("bond(0, 1) = 0", "bond(1, 0) = 0", "now(5) = 0");
    x.then("stair(0, 4) = 5", "stair(1, 4) = 9", "stair(1, 5) = 0", "now(0) = 0", "now(3) = 0");
    x.then("count(4) = 0", "undo() = STATE");
    x.then("back(0) = STATE", "back(1) = STATE", "keep(1) = 0", "back(0) = STATE", "back(1) = 0");
    // The empty text is read anew as well.
    Case.told("s0 1 9 5;").then("ends()", "keep(0)", "house() = 0", "now(0) = 0", "undo() = STATE", "back(0) = STATE");
    // Fewer stairs and people than were told ahead of it.
    Case.told(SEVEN + FIVE).types("s5 6 2 3;p1 2 3;").then("house() = 2", "count(0) = 1", "count(1) = 1", "stair(1, 0) = BAD",
        "person(1, 0) = BAD", "stair(0, 0) = 5", "now(1) = 3", "coins(9, 1) = BAD", "bars(0, 1) = 0", "who(1, 2, 0, 0) = 0");
    // What was asked of the house ahead of it leaves nothing, either.
    Case.told(SEVEN + FIVE).then("coins(0, -1) = 7", "surest(0, 6, 0) = 1", "paid(0, 0) = 0", "now(5) = 0").types("s5 6 2 3;p1 2 3;")
        .then("house() = 2", "coins(0, -1) = 3", "coins(0, -2) = 0", "surest(0, 6, 0) = NONE", "paid(0, 0) = 9", "paid(0, 1) = 3");
  }
}
