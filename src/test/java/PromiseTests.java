/** One group of calls for each promise of the document, 1 to 27, with the answers that are due by its words. */
public final class PromiseTests {
  private static final int BAD = -1, STATE = -2, FULL = -3, NONE = -9, NO = -1000000;
  // Floors 0, 1, 2 in a ring, 3 behind it, 4 and 5 apart, 6 alone.
  private static final String HOUSE =
      "s0 1 9 5;s1 2 20 0;s0 2 3 11;s2 3 40 7;s4 5 1 2;p0 3 4;p1 8 1;p0 10 9;d2;t5;";
  private static int wrong = 0;
  private static int promise = 0;

  public static void main(String[] args) {
    promise1();
    promise2();
    promise3();
    promise4();
    promise4Faults();
    promise4ReadsAnew();
    promise5();
    promise6();
    promise7();
    promise8();
    promise9();
    promise10();
    promise11();
    promise12();
    promise13();
    promise14();
    promise15();
    promise15Struck();
    promise16();
    promise17();
    promise18();
    promise19();
    promise20();
    promise21();
    promise22();
    promise23();
    promise24And25();
    promise26();
    promise27();
    System.out.println(wrong == 0 ? "all promises are kept" : wrong + " answers are not as due");
    if (wrong != 0) {
      System.exit(1);
    }
  }

  private static void due(String call, long got, long want) {
    if (got != want) {
      wrong++;
      System.out.println("promise " + promise + ": " + call + " answered " + got + ", due is " + want);
    }
  }

  private static void write(OwedFalls x, String text) {
    for (int i = 0; i < text.length(); i++) {
      x.type(text.charAt(i));
    }
  }

  private static OwedFalls told(String text) {
    OwedFalls x = new OwedFalls();
    write(x, text);
    int items = x.house();
    if (items < 0) {
      due("house() of " + text, items, 0);
    }
    return x;
  }

  private static void faultAt(int place, String text) {
    OwedFalls x = new OwedFalls();
    write(x, text);
    due("house() of \"" + text + "\"", x.house(), -10 - place);
    due("bytes after the fault in \"" + text + "\"", x.count(5), text.length());
  }

  private static void promise1() {
    promise = 1;
    OwedFalls x = new OwedFalls();
    int[] counts = {0, 0, 3, 3, 0, 0};
    for (int what = 0; what < counts.length; what++) {
      due("count(" + what + ")", x.count(what), counts[what]);
    }
    int[] nows = {0, 0, 0, 0, NONE, 0};
    for (int what = 0; what < nows.length; what++) {
      due("now(" + what + ")", x.now(what), nows[what]);
    }
    due("trace()", x.trace(), 0);
    due("stair(0, 0)", x.stair(0, 0), BAD);
    due("person(0, 0)", x.person(0, 0), BAD);
    due("back(0)", x.back(0), STATE);
    due("back(1)", x.back(1), STATE);
    due("undo()", x.undo(), STATE);
    due("coins(99, -1)", x.coins(99, -1), 0);
    due("coins(99, -2)", x.coins(99, -2), 0);
    due("coins(99, 0)", x.coins(99, 0), BAD);
    due("odds(0, 0)", x.odds(0, 0), 1);
    due("odds(1, 0)", x.odds(1, 0), 0);
    due("odds(1, 1)", x.odds(1, 1), 1);
  }

  private static void promise2() {
    promise = 2;
    OwedFalls x = new OwedFalls();
    due("type(-1)", x.type(-1), BAD);
    due("type(256)", x.type(256), BAD);
    due("type(MIN)", x.type(Integer.MIN_VALUE), BAD);
    due("type(0)", x.type(0), 1);
    due("type(255)", x.type(255), 2);
    for (int i = 3; i <= 200; i++) {
      due("type(32)", x.type(32), i);
    }
    due("type(32) of 200", x.type(32), FULL);
    due("type(256) of 200", x.type(256), BAD);
    due("count(5)", x.count(5), 200);
  }

  private static void promise3() {
    promise = 3;
    OwedFalls x = new OwedFalls();
    due("clear() of none", x.clear(), 0);
    write(x, "zz z");
    due("clear()", x.clear(), 4);
    due("clear() again", x.clear(), 0);
    write(x, "d7;");
    due("house() after clear()", x.house(), 1);
    due("count(2)", x.count(2), 7);
  }

  private static void promise4() {
    promise = 4;
    OwedFalls x = new OwedFalls();
    write(x, HOUSE);
    due("house()", x.house(), 10);
    due("bytes then", x.count(5), 0);
    due("stairs", x.count(0), 5);
    due("people", x.count(1), 3);
    due("dolls", x.count(2), 2);
    due("pair", x.count(3), 5);
    OwedFalls blanks = told("  s 0   6 99 40 ;  p1 10 9;t 0; d 0 ;   ");
    due("blanks: stairs", blanks.count(0), 1);
    due("blanks: floor", blanks.stair(0, 1), 6);
    due("blanks: dolls", blanks.count(2), 0);
    due("blanks: pair", blanks.count(3), 0);
    OwedFalls most = told("s0 1 1 0;s0 1 1 0;s0 1 1 0;s0 1 1 0;s0 1 1 0;s0 1 1 0;s0 1 1 0;"
        + "p0 0 0;p0 0 0;p0 0 0;p0 0 0;p0 0 0;d9;t9;");
    due("most stairs", most.count(0), 7);
    due("most people", most.count(1), 5);
    OwedFalls empty = new OwedFalls();
    due("house() of no text", empty.house(), 0);
    write(empty, "   ");
    due("house() of blanks", empty.house(), 0);
    write(empty, " ".repeat(200));
    due("house() of 200 blanks", empty.house(), 0);
    write(empty, "d7;" + " ".repeat(193) + "t8; ");
    due("house() of 200 bytes", empty.house(), 2);
    due("bytes then", empty.count(5), 0);
  }

  private static void promise4Faults() {
    promise = 4;
    faultAt(1, "s");
    faultAt(3, "s  ");
    faultAt(8, "s0 1 9 5");
    faultAt(6, "s0 1 9");
    faultAt(6, "p0 0 0");
    faultAt(2, "d1");
    faultAt(0, "ds1;");
    faultAt(0, "S0 1 9 5;");
    faultAt(0, "0");
    faultAt(2, "  ; ");
    faultAt(3, "d1;;");
    faultAt(3, "d1;7");
    faultAt(1, "d;");
    faultAt(0, "da1;");
    faultAt(0, "dz1;");
    faultAt(1, "d`1;");
    faultAt(1, "d{1;");
    faultAt(2, "d1/;");
    faultAt(2, "d1:;");
    faultAt(0, "z".repeat(200));
    faultAt(0, "7".repeat(200));
    faultAt(1, "d" + "7".repeat(199));
    faultAt(200, "d" + " ".repeat(199));
    faultAt(200, " ".repeat(198) + "d7");
    faultAt(1, "d" + (char) 9 + "1;");
    faultAt(2, "d " + (char) 0 + ";");
    faultAt(2, "d " + (char) 255 + ";");
    faultAt(2, "d1" + (char) 200);
    faultAt(1, "d-1;");
    faultAt(3, "d1 2;");
    faultAt(2, "d1s0 1 9 5;");
    faultAt(1, "d00;");
    faultAt(1, "d01;");
    faultAt(1, "d10;");
    faultAt(1, "t10;");
    faultAt(1, "t100;");
    faultAt(1, "s00 1 1 1;");
    faultAt(1, "s4294967296 1 1 1;");
    faultAt(1, "s99999999999999999999999999 1 1 1;");
    faultAt(5, "s0 1 100 1;");
    faultAt(5, "s0 1 0 1;");
    faultAt(5, "s0 1 a 1;");
    faultAt(5, "s0 1 c 1;");
    faultAt(8, "s0 1 99 41;");
    faultAt(3, "s3 3 1 1;");
    faultAt(3, "s3 7 1 1;");
    faultAt(1, "s7 7 1 1;");
    faultAt(9, "s0 1 9 5 p0 0 0;");
    faultAt(4, "s0 1;");
    faultAt(1, "p2 0 0;");
    faultAt(3, "p1 11 0;");
    faultAt(6, "p1 10 10;");
    faultAt(9, "d1;p1 1 1d1;");
    faultAt(3, "d1;d");
    faultAt(7, "d1; t1;t@");
    faultAt(3, "s0 0 @");
    faultAt(63, "s0 1 1 0;s0 1 1 0;s0 1 1 0;s0 1 1 0;s0 1 1 0;s0 1 1 0;s0 1 1 0;s0 1 1 0;");
    faultAt(36, "p0 0 0;p0 0 0;p0 0 0;p0 0 0;p0 0 0; p0 0 0;");
  }

  private static void promise4ReadsAnew() {
    promise = 4;
    OwedFalls x = told(HOUSE);
    x.falls(0, 2);
    x.sells(0, 1, 2);
    x.throwsDoll(3);
    x.keep(0);
    x.keep(1);
    x.ends();
    x.mark(0, 0);
    write(x, "s0 1 9 6;q");
    due("house() with a fault", x.house(), -19);
    due("stairs", x.count(0), 5);
    due("year", x.now(0), 1);
    due("due", x.stair(2, 4), 20);
    due("undoable", x.count(4), 4);
    due("back(0)", x.back(0), 0);
    due("bond", x.bond(0, 1), 2);
    due("clear()", x.clear(), 10);
    x.ends();
    write(x, "s5 6 9 6;s0 1 1 1;");
    due("house() anew", x.house(), 2);
    due("stairs", x.count(0), 2);
    due("people", x.count(1), 0);
    due("dolls as at first", x.count(2), 3);
    due("pair as at first", x.count(3), 3);
    due("year", x.now(0), 0);
    due("hurt", x.now(3), 0);
    due("due", x.now(1), 7);
    due("thrown", x.stair(0, 5), 0);
    due("bond", x.bond(0, 1), 0);
    due("undo()", x.undo(), STATE);
    due("back(0)", x.back(0), STATE);
    due("back(1)", x.back(1), STATE);
    due("trace goes on", x.trace(), 1);
    write(x, "t7;d8;p0 1 1;");
    due("house() once more", x.house(), 3);
    due("stairs", x.count(0), 0);
    due("due of all", x.now(1), 0);
    write(x, "d8;t7;");
    due("d and t may be told again", x.house(), 2);
    due("people", x.count(1), 0);
    due("house() of nothing", x.house(), 0);
    due("dolls as at first", x.count(2), 3);
    due("pair as at first", x.count(3), 3);
  }

  private static void promise5() {
    promise = 5;
    OwedFalls x = told(HOUSE);
    int[][] stairs = {
        {0, 1, 9, 5, 5, 0, 36}, {1, 2, 20, 0, 0, 0, 0}, {0, 2, 3, 11, 11, 0, 96}, {2, 3, 40, 7, 7, 0, 23},
        {4, 5, 1, 2, 2, 0, 17}};
    for (int s = 0; s < stairs.length; s++) {
      for (int what = 0; what < 7; what++) {
        due("stair(" + s + ", " + what + ")", x.stair(s, what), stairs[s][what]);
      }
    }
    x.throwsDoll(0);
    due("DUE after a doll", x.stair(0, 4), 4);
    due("OWES after a doll", x.stair(0, 3), 5);
    due("DOLLS after a doll", x.stair(0, 5), 1);
    due("PRICE after a doll", x.stair(0, 6), 27);
    due("floors as told", told("s6 2 1 1;").stair(0, 0), 6);
    due("stair(-1, 0)", x.stair(-1, 0), BAD);
    due("stair(5, 0)", x.stair(5, 0), BAD);
    due("stair(7, 0)", x.stair(7, 0), BAD);
    due("stair(0, -1)", x.stair(0, -1), BAD);
    due("stair(0, 7)", x.stair(0, 7), BAD);
  }

  private static void promise6() {
    promise = 6;
    OwedFalls x = told(HOUSE);
    int[][] people = {{0, 3, 4}, {1, 8, 1}, {0, 10, 9}};
    for (int p = 0; p < people.length; p++) {
      for (int what = 0; what < 3; what++) {
        due("person(" + p + ", " + what + ")", x.person(p, what), people[p][what]);
      }
    }
    due("person(-1, 0)", x.person(-1, 0), BAD);
    due("person(3, 0)", x.person(3, 0), BAD);
    due("person(0, -1)", x.person(0, -1), BAD);
    due("person(0, 3)", x.person(0, 3), BAD);
  }

  private static void promise7() {
    promise = 7;
    OwedFalls x = told(HOUSE);
    due("bond(0, 1)", x.bond(0, 1), 0);
    x.sells(0, 1, 2);
    x.sells(0, 1, 3);
    x.sells(1, 0, 1);
    due("bond(0, 1)", x.bond(0, 1), 5);
    due("bond(1, 0)", x.bond(1, 0), 1);
    x.redeems(1);
    due("bond(0, 1) after redeems(1)", x.bond(0, 1), 5);
    due("bond(0, 0)", x.bond(0, 0), BAD);
    due("bond(0, 5)", x.bond(0, 5), BAD);
    due("bond(5, 0)", x.bond(5, 0), BAD);
    due("bond(-1, 0)", x.bond(-1, 0), BAD);
    due("bond(0, -1)", x.bond(0, -1), BAD);
    x.ends();
    due("bond(0, 1) in another year", x.bond(0, 1), 0);
    x.undo();
    due("bond(0, 1) after undo()", x.bond(0, 1), 5);
  }

  private static void promise8() {
    promise = 8;
    OwedFalls x = told(HOUSE);
    due("falls(0, 2)", x.falls(0, 2), 9);
    due("falls(1, 2)", x.falls(1, 2), 8);
    due("hurt", x.now(3), 5);
    due("falls(2, 1) on nothing due", x.falls(2, 1), 0);
    due("hurt", x.now(3), 14);
    due("falls(1, 4)", x.falls(1, 4), 1);
    due("falls(0, 4) with one half due", x.falls(0, 4), 0);
    due("undoable", x.count(4), 5);
    due("falls(3, 0)", x.falls(3, 0), BAD);
    due("falls(-1, 0)", x.falls(-1, 0), BAD);
    due("falls(0, 5)", x.falls(0, 5), BAD);
    due("falls(0, -1)", x.falls(0, -1), BAD);
    due("undoable after BAD", x.count(4), 5);
    due("hurt after BAD", x.now(3), 19);
  }

  private static void promise9() {
    promise = 9;
    OwedFalls x = told(HOUSE);
    due("together(0, 2, 2)", x.together(0, 2, 2), 6);
    due("hurt", x.now(3), 13);
    due("together(2, 1, 2)", x.together(2, 1, 2), 1);
    due("together(1, 0, 2)", x.together(1, 0, 2), 0);
    due("hurt", x.now(3), 28);
    due("together(1, 1, 2)", x.together(1, 1, 2), BAD);
    due("together(3, 0, 2)", x.together(3, 0, 2), BAD);
    due("together(0, 3, 2)", x.together(0, 3, 2), BAD);
    due("together(-1, 0, 2)", x.together(-1, 0, 2), BAD);
    due("together(0, -1, 2)", x.together(0, -1, 2), BAD);
    due("together(0, 1, 5)", x.together(0, 1, 5), BAD);
    due("together(0, 1, -1)", x.together(0, 1, -1), BAD);
    due("undoable", x.count(4), 3);
    OwedFalls nothing = told("s0 1 1 9;p0 0 4;p1 0 5;t0;");
    due("together counts 0", nothing.together(0, 1, 0), 9);
    due("hurt all the same", nothing.now(3), 9);
    due("PAIR at first", told("s0 1 1 9;p0 0 0;p1 0 0;").together(0, 1, 0), 6);
  }

  private static void promise10() {
    promise = 10;
    OwedFalls x = told(HOUSE);
    due("throwsDoll(4)", x.throwsDoll(4), 1);
    due("throwsDoll(4)", x.throwsDoll(4), 0);
    due("throwsDoll(4), all thrown", x.throwsDoll(4), STATE);
    due("throwsDoll(1), nothing due", x.throwsDoll(1), 0);
    due("thrown", x.stair(1, 5), 1);
    due("throwsDoll(5)", x.throwsDoll(5), BAD);
    due("throwsDoll(-1)", x.throwsDoll(-1), BAD);
    due("undoable", x.count(4), 3);
    due("hurt", x.now(3), 0);
    x.ends();
    due("throwsDoll(4) in another year", x.throwsDoll(4), 1);
    due("no dolls at all", told("s0 1 1 9;d0;").throwsDoll(0), STATE);
  }

  private static void promise11() {
    promise = 11;
    OwedFalls x = told("s0 1 1 40;s0 1 1 40;s0 1 1 0;");
    due("sells(0, 1, 0)", x.sells(0, 1, 0), BAD);
    due("sells(0, 1, 100)", x.sells(0, 1, 100), BAD);
    due("sells(0, 0, 1)", x.sells(0, 0, 1), BAD);
    due("sells(0, 3, 1)", x.sells(0, 3, 1), BAD);
    due("sells(3, 0, 1)", x.sells(3, 0, 1), BAD);
    due("sells(-1, 0, 1)", x.sells(-1, 0, 1), BAD);
    due("sells(0, -1, 1)", x.sells(0, -1, 1), BAD);
    due("sells(0, 1, 41)", x.sells(0, 1, 41), STATE);
    due("undoable", x.count(4), 0);
    due("sells(0, 2, 40)", x.sells(0, 2, 40), 0);
    due("due of the other", x.stair(2, 4), 40);
    due("bond", x.bond(0, 2), 40);
    due("sells(0, 2, 1)", x.sells(0, 2, 1), STATE);
    for (int i = 0; i < 30; i++) {
      x.ends();
    }
    due("due at most", x.stair(1, 4), 999);
    due("due", x.stair(2, 4), 40);
    due("sells(2, 1, 1) above 999", x.sells(2, 1, 1), FULL);
    due("sells(2, 1, 41), STATE ahead of FULL", x.sells(2, 1, 41), STATE);
    x.throwsDoll(1);
    due("sells(2, 1, 1) to 999", x.sells(2, 1, 1), 39);
    due("due of the other", x.stair(1, 4), 999);
    due("sells(1, 2, 99)", x.sells(1, 2, 99), 900);
  }

  private static void promise12() {
    promise = 12;
    OwedFalls x = told(HOUSE);
    due("redeems(2)", x.redeems(2), 11);
    due("due then", x.stair(2, 4), 0);
    due("redeems(2) again", x.redeems(2), STATE);
    due("redeems(1)", x.redeems(1), STATE);
    due("redeems(5)", x.redeems(5), BAD);
    due("redeems(-1)", x.redeems(-1), BAD);
    due("undoable", x.count(4), 1);
  }

  private static void promise13() {
    promise = 13;
    OwedFalls x = told("s0 1 1 40;s0 1 1 1;s0 1 1 0;p0 0 2;");
    x.throwsDoll(0);
    x.falls(0, 1);
    due("ends()", x.ends(), 80);
    due("due", x.stair(0, 4), 79);
    due("due", x.stair(1, 4), 1);
    due("thrown", x.stair(0, 5), 0);
    due("hurt stays", x.now(3), 2);
    due("year", x.now(0), 1);
    for (int year = 2; year <= 99; year++) {
      int first = Math.min(999, 39 + 40 * year);
      due("ends() of year " + (year - 1), x.ends(), first + year);
    }
    due("ends() of year 99", x.ends(), STATE);
    due("year", x.now(0), 99);
    due("undo()", x.undo(), 9);
    due("ends() of year 98", x.ends(), 999 + 99);
  }

  private static void promise14() {
    promise = 14;
    OwedFalls x = told(HOUSE);
    due("undo() of nothing", x.undo(), STATE);
    x.falls(0, 0);
    x.together(0, 1, 2);
    x.throwsDoll(3);
    x.sells(3, 4, 5);
    x.redeems(4);
    x.ends();
    x.redeems(1);
    due("undo() after STATE", x.undo(), 5);
    due("year", x.now(0), 0);
    due("thrown", x.stair(3, 5), 1);
    due("bond", x.bond(3, 4), 5);
    due("undo() of redeems", x.undo(), 4);
    due("due", x.stair(4, 4), 7);
    due("undo() of sells", x.undo(), 3);
    due("due", x.stair(4, 4), 2);
    due("due", x.stair(3, 4), 6);
    due("bond", x.bond(3, 4), 0);
    due("undo() of throwsDoll", x.undo(), 2);
    due("thrown", x.stair(3, 5), 0);
    due("due", x.stair(3, 4), 7);
    due("undo() of together", x.undo(), 1);
    due("hurt", x.now(3), 4);
    due("due", x.stair(2, 4), 11);
    due("undo() of falls", x.undo(), 0);
    due("hurt", x.now(3), 0);
    due("due", x.now(1), 25);
    due("undo() of nothing", x.undo(), STATE);
    for (int i = 0; i < 12; i++) {
      x.ends();
    }
    due("undoable at most", x.count(4), 10);
    for (int left = 9; left >= 0; left--) {
      due("undo()", x.undo(), left);
    }
    due("undo() of what is lost", x.undo(), STATE);
    due("year", x.now(0), 2);
    due("due", x.now(1), 75);
  }

  private static void promise15() {
    promise = 15;
    OwedFalls x = told(HOUSE);
    int[] nows = {0, 25, 2, 0, 2, 0};
    for (int what = 0; what < nows.length; what++) {
      due("now(" + what + ")", x.now(what), nows[what]);
    }
    x.redeems(2);
    x.falls(2, 4);
    due("now(1)", x.now(1), 12);
    due("now(2)", x.now(2), 2 + 4 + 16);
    due("now(3)", x.now(3), 9);
    due("now(4)", x.now(4), 0);
    x.ends();
    due("now(0)", x.now(0), 1);
    due("now(-1)", x.now(-1), BAD);
    due("now(6)", x.now(6), BAD);
    due("DEAR of several", told("s0 1 1 1;s0 1 10 2;s0 1 10 2;s0 1 1 1;").now(4), 0);
    due("DEAR, the greater one", told("s0 1 2 1;s0 1 10 2;s0 1 10 2;").now(4), 1);
    due("DEAR where each price is 0", told("s0 1 9 1;s0 1 10 0;").now(4), 0);
    due("nothing due on seven", told("s0 1 1 0;s0 1 1 0;s0 1 1 0;s0 1 1 0;s0 1 1 0;s0 1 1 0;s0 1 1 0;").now(2), 127);
  }

  private static void promise15Struck() {
    promise = 15;
    OwedFalls x = told("s0 1 1 40;s0 1 1 40;s0 1 1 40;s0 1 1 40;");
    x.sells(0, 1, 10);
    x.sells(1, 2, 8);
    due("STRUCK without a ring", x.now(5), 0);
    x.sells(2, 0, 6);
    due("STRUCK of three", x.now(5), 18);
    x.sells(1, 0, 7);
    // Two first: 0 1 by 7; then 0 1 2 by 3.
    due("STRUCK of two, then three", x.now(5), 14 + 9);
    x.sells(2, 3, 5);
    x.sells(3, 0, 9);
    // 0 1 by 7, 0 1 2 by 3, and nothing is left of 0 to 1 for 0 1 2 3.
    due("STRUCK: fewest first", x.now(5), 23);
    due("bonds are as they were", x.bond(0, 1), 10);
    due("STRUCK again", x.now(5), 23);
    OwedFalls y = told("s0 1 1 40;s0 1 1 40;s0 1 1 40;s0 1 1 40;");
    // Rings 0 1 3 and 0 2 3 share 3 to 0, rings 0 1 3 and 1 3 2 share 1 to 3.
    y.sells(0, 1, 5);
    y.sells(1, 3, 5);
    y.sells(3, 0, 7);
    y.sells(0, 2, 9);
    y.sells(2, 3, 9);
    // 0 1 3 by 5 (15), then 0 2 3 by 2 (6).
    due("STRUCK: the least row first", y.now(5), 21);
    y.sells(3, 2, 4);
    // 2 3 by 4 (8), 0 1 3 by 5 (15), 0 2 3 by 2 (6).
    due("STRUCK: two ahead of three", y.now(5), 29);
    y.ends();
    due("STRUCK in another year", y.now(5), 0);
  }

  private static void promise16() {
    promise = 16;
    OwedFalls x = told(HOUSE);
    int[][] rows = {
        {0, 0, 0, 0, NONE}, {0, 1, 5, 9, 0}, {0, 2, 5, 29, 0}, {2, 0, 5, 29, 1}, {0, 3, 12, 69, 0}, {3, 0, 12, 69, 3},
        {5, 4, 2, 1, 4}, {0, 4, NONE, NONE, NONE}, {6, 6, 0, 0, NONE}, {6, 0, NONE, NONE, NONE}, {0, 6, NONE, NONE, NONE}};
    for (int[] row : rows) {
      for (int what = 0; what < 3; what++) {
        due("surest(" + row[0] + ", " + row[1] + ", " + what + ")", x.surest(row[0], row[1], what), row[2 + what]);
      }
    }
    due("surest(-1, 0, 0)", x.surest(-1, 0, 0), BAD);
    due("surest(0, 7, 0)", x.surest(0, 7, 0), BAD);
    due("surest(7, 0, 0)", x.surest(7, 0, 0), BAD);
    due("surest(0, -1, 0)", x.surest(0, -1, 0), BAD);
    due("surest(0, 1, 3)", x.surest(0, 1, 3), BAD);
    due("surest(0, 1, -1)", x.surest(0, 1, -1), BAD);
    due("surest(7, 7, 0)", x.surest(7, 7, 0), BAD);
    x.redeems(2);
    due("DUE by what is due now", x.surest(0, 2, 0), 0);
    due("first by what is due now", x.surest(0, 2, 2), 2);
    OwedFalls fewer = told("s0 1 5 1;s1 2 5 1;s0 2 9 2;s2 0 9 2;");
    due("fewer STEPS of as much DUE", fewer.surest(0, 2, 1), 9);
    due("the first stair then", fewer.surest(0, 2, 2), 2);
    OwedFalls alike = told("s5 6 5 1;s0 5 5 1;s0 6 10 2;");
    due("as many STEPS, too", alike.surest(0, 6, 1), 10);
    due("the least first stair", alike.surest(0, 6, 2), 1);
    due("the least first stair back", alike.surest(6, 0, 2), 0);
    OwedFalls far = told("s0 1 99 0;s1 2 99 0;s2 3 99 0;s3 4 99 0;s4 5 99 0;s5 6 99 0;s0 6 1 1;");
    due("many STEPS of little DUE", far.surest(0, 6, 1), 594);
    due("no DUE", far.surest(0, 6, 0), 0);
  }

  private static void promise17() {
    promise = 17;
    OwedFalls x = told(HOUSE);
    due("bars(0, 3)", x.bars(0, 3), 8);
    due("bars(3, 1)", x.bars(3, 1), 8);
    due("bars(0, 2)", x.bars(0, 2), 0);
    due("bars(4, 5)", x.bars(4, 5), 16);
    due("bars(0, 4), no way", x.bars(0, 4), 0);
    due("bars(3, 3)", x.bars(3, 3), 0);
    due("bars(6, 6)", x.bars(6, 6), 0);
    due("bars(-1, 0)", x.bars(-1, 0), BAD);
    due("bars(0, -1)", x.bars(0, -1), BAD);
    due("bars(7, 0)", x.bars(7, 0), BAD);
    due("bars(0, 7)", x.bars(0, 7), BAD);
    OwedFalls row = told("s0 1 1 0;s1 2 1 0;s2 3 1 0;s3 4 1 0;s4 5 1 0;s5 6 1 0;");
    due("bars(0, 6) of a row", row.bars(0, 6), 63);
    due("bars(4, 1) of a row", row.bars(4, 1), 2 + 4 + 8);
    due("bars of two side by side", told("s0 1 1 0;s1 0 1 0;s1 2 1 0;").bars(0, 2), 4);
  }

  private static void promise18() {
    promise = 18;
    OwedFalls x = told(HOUSE);
    // Five: two together for 5 HURT; eleven: twice that and the child once.
    int[][] rows = {{5, 1}, {0, 0}, {11, 3}, {7, 3}, {2, 2}};
    for (int s = 0; s < rows.length; s++) {
      due("paid(" + s + ", 0)", x.paid(s, 0), rows[s][0]);
      due("paid(" + s + ", 1)", x.paid(s, 1), rows[s][1]);
    }
    due("paid(5, 0)", x.paid(5, 0), BAD);
    due("paid(-1, 0)", x.paid(-1, 0), BAD);
    due("paid(0, 2)", x.paid(0, 2), BAD);
    due("paid(0, -1)", x.paid(0, -1), BAD);
    OwedFalls nobody = told("s0 1 1 1;s0 1 1 0;t9;");
    due("nobody: HURT", nobody.paid(0, 0), NONE);
    due("nobody: FALLS", nobody.paid(0, 1), NONE);
    due("nobody, nothing due: HURT", nobody.paid(1, 0), 0);
    due("nobody, nothing due: FALLS", nobody.paid(1, 1), 0);
    OwedFalls painless = told("s0 1 1 9;p0 9 0;p0 9 0;t9;");
    due("fewest FALLS of as little HURT", painless.paid(0, 1), 1);
    OwedFalls alone = told("s0 1 1 9;p1 9 9;t9;");
    due("one is not two", alone.paid(0, 0), 81);
    due("one is not two: FALLS", alone.paid(0, 1), 9);
    for (int i = 0; i < 99; i++) {
      alone.ends();
    }
    due("much is due: HURT", alone.paid(0, 0), 9 * 900);
    due("much is due: FALLS", alone.paid(0, 1), 900);
    OwedFalls most = told("s0 1 1 40;p1 9 9;");
    for (int i = 0; i < 30; i++) {
      most.ends();
    }
    due("most is due: HURT", most.paid(0, 0), 9 * 999);
    due("most is due: FALLS", most.paid(0, 1), 999);
    OwedFalls useless = told("s0 1 1 3;p0 0 5;p0 0 0;t0;");
    due("two together count nothing", useless.paid(0, 0), 0);
    due("two together count nothing: FALLS", useless.paid(0, 1), 2);
  }

  private static void promise19() {
    promise = 19;
    OwedFalls x = told("s0 1 12 6;s1 2 12 3;s2 3 8 9;s0 3 30 15;s3 4 5 4;s1 4 9 12;p0 6 3;t4;d4;");
    int[][] rows = {
        {0, 49, 0, 0, 0, 0, 0, 0, 0}, {6, 41, 6, 0, 0, 0, 0, 0, 6}, {14, 31, 14, 0, 0, 0, 2, 3, 9},
        {25, 16, 25, 0, 0, 3, 10, 3, 9}, {40, 0, 39, 5, 3, 7, 12, 3, 9}, {99, 0, 39, 5, 3, 7, 12, 3, 9}};
    for (int[] row : rows) {
      for (int s = -2; s < 6; s++) {
        int want = s == -1 ? row[1] : s == -2 ? row[2] : row[3 + s];
        due("coins(" + row[0] + ", " + s + ")", x.coins(row[0], s), want);
      }
    }
    due("coins(-1, -1)", x.coins(-1, -1), BAD);
    due("coins(100, -1)", x.coins(100, -1), BAD);
    due("coins(9, -3)", x.coins(9, -3), BAD);
    due("coins(9, 6)", x.coins(9, 6), BAD);
    OwedFalls much = told("s0 1 1 40;d9;");
    due("eleven coins", much.coins(11, -1), 40 - 14);
    due("twelve coins", much.coins(12, -1), 0);
    due("more than twelve", much.coins(50, 0), 12);
    much.throwsDoll(0);
    much.throwsDoll(0);
    due("dolls that are left", much.coins(2, -1), 36);
    OwedFalls few = told("s0 1 1 7;d1;");
    due("one doll, five coins", few.coins(5, -1), 2);
    due("one doll, five coins: fewest", few.coins(5, -2), 4);
    few.throwsDoll(0);
    due("no doll left, five coins", few.coins(5, -1), 2);
    due("no doll left, five coins: fewest", few.coins(5, -2), 3);
    due("coins change nothing", few.stair(0, 4), 6);
    OwedFalls same = told("s0 1 1 4;s0 1 1 4;");
    due("the first way: 0", same.coins(3, 0), 0);
    due("the first way: 1", same.coins(3, 1), 3);
  }

  private static void promise20() {
    promise = 20;
    OwedFalls x = told(HOUSE);
    due("free(0, 4)", x.free(0, 4), NONE);
    due("free(0, 5)", x.free(0, 5), 1);
    due("free(0, 99)", x.free(0, 99), 1);
    due("free(1, 0), nothing due", x.free(1, 0), 0);
    x.ends();
    due("free(0, 5), never", x.free(0, 5), NONE);
    // Ten due, five more between the years: 4, 3, 2, 1, 0 are left by six a year.
    due("free(0, 6)", x.free(0, 6), 5);
    due("free(0, 7)", x.free(0, 7), 3);
    due("free(0, 10)", x.free(0, 10), 1);
    due("free(0, 9)", x.free(0, 9), 2);
    due("free(5, 0)", x.free(5, 0), BAD);
    due("free(-1, 0)", x.free(-1, 0), BAD);
    due("free(0, -1)", x.free(0, -1), BAD);
    due("free(0, 100)", x.free(0, 100), BAD);
    // 100 due that lessen by 1 a year: 100 - 1 * 98 - 2 in the 99th.
    OwedFalls slow = told("s0 1 1 1;s0 1 1 40;s0 1 1 40;s0 1 1 40;");
    slow.sells(1, 0, 40);
    slow.sells(2, 0, 40);
    slow.sells(3, 0, 19);
    due("due", slow.stair(0, 4), 100);
    due("in the 99th year", slow.free(0, 2), 99);
    slow.sells(3, 0, 1);
    due("not by the 99th year", slow.free(0, 2), NONE);
    for (int i = 0; i < 99; i++) {
      slow.ends();
    }
    due("from YEAR 99 on", slow.free(1, 99), 17);
  }

  private static void promise21() {
    promise = 21;
    OwedFalls x = told("s0 1 1 1;p0 0 2;p1 0 1;p0 0 2;p1 0 0;");
    // Twice, 4 halves, 4 hurt: 0 0, 0 2, 2 2.
    due("who(2, 4, 4, 0)", x.who(2, 4, 4, 0), 3);
    due("who(2, 4, 4, 1)", x.who(2, 4, 4, 1), 0);
    due("who(2, 4, 4, 2)", x.who(2, 4, 4, 2), 5);
    due("who(2, 3, 3, 0)", x.who(2, 3, 3, 0), 2);
    due("who(2, 3, 3, 1)", x.who(2, 3, 3, 1), 2);
    due("who(2, 3, 3, 2)", x.who(2, 3, 3, 2), 7);
    due("who(2, 2, 9, 0)", x.who(2, 2, 9, 0), 0);
    due("who(2, 2, 9, 1)", x.who(2, 2, 9, 1), 0);
    due("who(2, 2, 9, 2)", x.who(2, 2, 9, 2), 0);
    due("who(0, 0, 0, 0)", x.who(0, 0, 0, 0), 1);
    due("who(0, 0, 0, 1)", x.who(0, 0, 0, 1), 0);
    due("who(0, 1, 0, 0)", x.who(0, 1, 0, 0), 0);
    due("who(6, 6, 0, 0)", x.who(6, 6, 0, 0), 1);
    due("who(6, 6, 0, 1)", x.who(6, 6, 0, 1), 8);
    due("who(6, 12, 12, 0)", x.who(6, 12, 12, 0), 7);
    due("who(-1, 0, 0, 0)", x.who(-1, 0, 0, 0), BAD);
    due("who(7, 0, 0, 0)", x.who(7, 0, 0, 0), BAD);
    due("who(0, -1, 0, 0)", x.who(0, -1, 0, 0), BAD);
    due("who(0, 100, 0, 0)", x.who(0, 100, 0, 0), BAD);
    due("who(0, 0, -1, 0)", x.who(0, 0, -1, 0), BAD);
    due("who(0, 0, 100, 0)", x.who(0, 0, 100, 0), BAD);
    due("who(0, 0, 0, -1)", x.who(0, 0, 0, -1), BAD);
    due("who(0, 0, 0, 3)", x.who(0, 0, 0, 3), BAD);
    due("who(6, 99, 99, 0)", x.who(6, 99, 99, 0), 0);
    due("five alike, six times", told("p0 0 0;p0 0 0;p0 0 0;p0 0 0;p0 0 0;").who(6, 12, 0, 0), 210);
  }

  private static void promise22() {
    promise = 22;
    OwedFalls x = told("p0 3 4;p1 8 1;p0 10 9;");
    // 7 in ten for 2 halves, 2 in ten for 1, never for the third.
    int[][] rows = {{0, 1, 1}, {1, 19, 25}, {2, 7, 10}, {3, 7, 50}, {4, 0, 1}, {99, 0, 1}};
    for (int[] row : rows) {
      due("odds(" + row[0] + ", 0)", x.odds(row[0], 0), row[1]);
      due("odds(" + row[0] + ", 1)", x.odds(row[0], 1), row[2]);
    }
    due("odds(-1, 0)", x.odds(-1, 0), BAD);
    due("odds(100, 0)", x.odds(100, 0), BAD);
    due("odds(0, -1)", x.odds(0, -1), BAD);
    due("odds(0, 2)", x.odds(0, 2), BAD);
    OwedFalls five = told("p0 9 0;p0 9 0;p0 9 0;p0 9 0;p0 9 0;");
    due("all five: upper", five.odds(10, 0), 1);
    due("all five: lower", five.odds(10, 1), 100000);
    due("one of five: upper", five.odds(1, 0), 40951);
    due("one of five: lower", five.odds(2, 1), 100000);
    due("surely", told("p1 0 0;p0 0 0;").odds(3, 1), 1);
  }

  private static void promise23() {
    promise = 23;
    OwedFalls x = told(HOUSE);
    x.ends();
    x.ends();
    x.throwsDoll(2);
    // DUE 32, STEPS 3, OWES 11, one DOLL, YEAR 2.
    int[] marks = {32, 35, 31, 70, 42, 34};
    for (int kind = 0; kind < marks.length; kind++) {
      due("mark(" + kind + ", 2)", x.mark(kind, 2), marks[kind]);
    }
    x.throwsDoll(1);
    x.throwsDoll(1);
    due("mark below 0", x.mark(2, 1), -2);
    due("mark below 0", x.mark(4, 1), -2);
    due("mark(-1, 0)", x.mark(-1, 0), NO);
    due("mark(6, 0)", x.mark(6, 0), NO);
    due("mark(0, -1)", x.mark(0, -1), NO);
    due("mark(0, 5)", x.mark(0, 5), NO);
  }

  private static void promise24And25() {
    promise = 24;
    OwedFalls x = told(HOUSE);
    due("keep(-1)", x.keep(-1), BAD);
    due("keep(2)", x.keep(2), BAD);
    promise = 25;
    due("back(-1)", x.back(-1), BAD);
    due("back(2)", x.back(2), BAD);
    due("back(0), none kept", x.back(0), STATE);
    x.ends();
    x.sells(2, 0, 3);
    x.throwsDoll(0);
    x.falls(2, 0);
    promise = 24;
    due("keep(1)", x.keep(1), 1);
    promise = 25;
    due("back(0), none kept", x.back(0), STATE);
    x.ends();
    x.undo();
    x.undo();
    x.undo();
    x.undo();
    x.undo();
    for (int i = 0; i < 12; i++) {
      x.falls(0, 0);
    }
    due("keep(0)", x.keep(0), 0);
    write(x, "d9");
    x.mark(0, 0);
    due("back(1)", x.back(1), 1);
    due("year", x.now(0), 1);
    due("due", x.stair(0, 4), 10);
    due("thrown", x.stair(0, 5), 1);
    due("bond", x.bond(2, 0), 3);
    due("hurt", x.now(3), 9);
    due("undoable", x.count(4), 4);
    due("the text stays", x.count(5), 2);
    due("the trace stays", x.trace(), 1);
    due("undo()", x.undo(), 3);
    due("due", x.stair(0, 4), 12);
    due("undo()", x.undo(), 2);
    due("undo()", x.undo(), 1);
    due("undo()", x.undo(), 0);
    due("year", x.now(0), 0);
    due("due", x.now(1), 25);
    due("back(1) again", x.back(1), 1);
    due("undoable", x.count(4), 4);
    due("back(0)", x.back(0), 0);
    due("undoable", x.count(4), 10);
    due("hurt", x.now(3), 48);
    x.falls(1, 0);
    promise = 24;
    due("keep(0) anew", x.keep(0), 0);
    x.ends();
    due("back(0)", x.back(0), 0);
    due("hurt", x.now(3), 49);
  }

  private static void promise26() {
    promise = 26;
    OwedFalls x = told(HOUSE);
    write(x, "abc");
    x.throwsDoll(0);
    int[] counts = {5, 3, 2, 5, 1, 3};
    for (int what = 0; what < counts.length; what++) {
      due("count(" + what + ")", x.count(what), counts[what]);
    }
    due("count(-1)", x.count(-1), BAD);
    due("count(6)", x.count(6), BAD);
  }

  private static void promise27() {
    promise = 27;
    OwedFalls x = told(HOUSE);
    long[] after = {1, 12, 113, 1124, 11225, 111226};
    for (int kind = 0; kind < after.length; kind++) {
      x.mark(kind, 0);
      due("trace() after mark(" + kind + ", 0)", x.trace(), after[kind]);
    }
    x.mark(6, 0);
    x.mark(3, 5);
    x.stair(0, 6);
    x.now(4);
    due("trace() after what marks nothing", x.trace(), 111226);
    x.ends();
    x.undo();
    due("trace() is not undone", x.trace(), 111226);
    for (int i = 0; i < 400; i++) {
      x.mark(5, 0);
    }
    due("trace() adds up", x.trace(), 111226 + 400 * 100001L);
    due("BAD", OwedFalls.BAD, BAD);
    due("STATE", OwedFalls.STATE, STATE);
    due("FULL", OwedFalls.FULL, FULL);
    due("NONE", OwedFalls.NONE, NONE);
    due("NO", OwedFalls.NO, NO);
  }
}
