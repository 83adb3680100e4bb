/** Promises 16 to 22 at their boundaries: ways, payments, who it was, odds. A case for each. */
public final class BoundaryQuestionTests {
  private static final String HOUSE = "s0 1 9 5;s1 2 20 0;s0 2 3 11;p0 3 4;p1 8 1;d2;t5;";
  private static final String[] WAY = {"falls(0, 2)", "throwsDoll(0)", "sells(2, 0, 3)", "keep(0)", "ends()", "sells(0, 1, 2)",
      "sells(1, 0, 1)", "throwsDoll(1)", "mark(3, 0)", "type(115)"};
  private static final String SEVEN = "s0 1 1 40;s1 2 1 40;s2 3 1 40;s3 4 1 40;s4 5 1 40;s5 6 1 40;s6 0 1 40;";

  public static void main(String[] args) {
    questionsChangeNothing();
    surestThatIsBad();
    surestWhereThereIsNone();
    surestOfSeveral();
    surestOfMuch();
    bars();
    paidWhereNothingCounts();
    paidJustEnough();
    paidOfSeveral();
    coinsThatAreBad();
    coinsOnOneStair();
    coinsForDollsThatAreLeft();
    coinsOnSeveralStairs();
    freeAtItsEdges();
    freeInTheLastYear();
    whoThatIsBad();
    whoAtItsEdges();
    oddsAtTheirEdges();
    Case.end();
  }

  private static void questionsChangeNothing() {
    Case.says("(Nothing is changed.)");
    Case.leavesAll(HOUSE, WAY, "surest(0, 2, 0)", "surest(0, 2, 1)", "surest(0, 2, 2)", "bars(0, 2)");
    Case.leavesAll(HOUSE, WAY, "paid(0, 0)", "paid(2, 1)", "free(0, 9)", "free(2, 0)");
    Case.leavesAll(HOUSE, WAY, "coins(20, -1)", "coins(20, -2)", "coins(99, 0)", "coins(5, 2)");
    Case.leavesAll(HOUSE, WAY, "who(2, 4, 8, 0)", "who(2, 4, 8, 1)", "odds(2, 0)", "odds(2, 1)");
    Case.leavesAll(HOUSE, WAY, "now(5) = 2", "now(4)", "stair(0, 6)");
    Case.leavesAll(HOUSE, WAY, "surest(7, 0, 0) = BAD", "bars(0, 7) = BAD", "paid(3, 0) = BAD", "coins(100, -1) = BAD", "free(3, 0) = BAD",
        "who(7, 0, 0, 0) = BAD", "odds(100, 0) = BAD");
  }

  private static void surestThatIsBad() {
    Case.says("SUREST: DUE (what = 0), STEPS (1), the first STAIR (2; NONE); NONE. BAD.");
    for (int what = 0; what <= 2; what++) {
      Case.told(HOUSE).then("surest(-1, 0, " + what + ") = BAD", "surest(0, -1, " + what + ") = BAD", "surest(7, 0, " + what + ") = BAD",
          "surest(0, 7, " + what + ") = BAD", "surest(-1, -1, " + what + ") = BAD", "surest(7, 7, " + what + ") = BAD");
    }
    Case.told(HOUSE).then("surest(0, 1, -1) = BAD", "surest(0, 1, 3) = BAD", "surest(0, 0, -1) = BAD", "surest(0, 0, 3) = BAD");
    Case.told(HOUSE).then("surest(0, 6, 3) = BAD", "surest(MIN, 0, 0) = BAD", "surest(0, MAX, 0) = BAD", "surest(0, 0, MAX) = BAD");
  }

  private static void surestWhereThereIsNone() {
    Case.says("the first STAIR, of several the least (NONE: from a FLOOR to itself); NONE.");
    Case.told(HOUSE).then("surest(0, 0, 0) = 0", "surest(0, 0, 1) = 0", "surest(0, 0, 2) = NONE");
    Case.told(HOUSE).then("surest(6, 6, 0) = 0", "surest(6, 6, 1) = 0", "surest(6, 6, 2) = NONE");
    Case.told(HOUSE).then("surest(0, 6, 0) = NONE", "surest(0, 6, 1) = NONE", "surest(0, 6, 2) = NONE");
    Case.told(HOUSE).then("surest(6, 0, 0) = NONE", "surest(6, 0, 1) = NONE", "surest(6, 0, 2) = NONE");
    Case.told(HOUSE).then("surest(5, 6, 0) = NONE", "surest(5, 6, 1) = NONE", "surest(5, 6, 2) = NONE");
    // A way on which nothing is due is a way.
    Case.told("s0 6 1 0;").then("surest(0, 6, 0) = 0", "surest(0, 6, 1) = 1", "surest(0, 6, 2) = 0", "surest(6, 0, 2) = 0");
    // In two houses side by side there is no way from one to the other.
    Case.told("s0 1 1 1;s1 2 1 1;s2 0 1 1;s3 4 1 1;s4 5 1 1;s5 6 1 1;").then("surest(0, 3, 0) = NONE", "surest(3, 6, 0) = 3",
        "surest(6, 0, 2) = NONE");
  }

  private static void surestOfSeveral() {
    Case.says("the way by STAIRS by which DUE of them all together is least, of as much that of fewest STEPS");
    Case.told("s0 1 1 2;s0 1 99 1;").then("surest(0, 1, 0) = 1", "surest(0, 1, 1) = 99", "surest(0, 1, 2) = 1");
    Case.told("s0 1 2 1;s0 1 1 1;").then("surest(0, 1, 0) = 1", "surest(0, 1, 1) = 1", "surest(0, 1, 2) = 1");
    Case.told("s0 1 1 1;s0 1 1 1;").then("surest(0, 1, 2) = 0", "surest(1, 0, 2) = 0");
    // By way of floors, with as much due, in as many steps, less by one, more by one.
    Case.told("s0 2 9 4;s0 1 4 2;s1 2 5 2;").then("surest(0, 2, 0) = 4", "surest(0, 2, 1) = 9", "surest(0, 2, 2) = 0", "surest(2, 0, 2) = 0");
    Case.told("s0 2 9 4;s0 1 4 2;s1 2 4 2;").then("surest(0, 2, 1) = 8", "surest(0, 2, 2) = 1", "surest(2, 0, 2) = 2");
    Case.told("s0 2 9 4;s0 1 5 2;s1 2 5 2;").then("surest(0, 2, 1) = 9", "surest(0, 2, 2) = 0", "surest(2, 0, 2) = 0");
    Case.told("s0 1 4 2;s1 2 5 2;s0 2 9 4;").then("surest(0, 2, 2) = 0", "surest(2, 0, 2) = 1");
    Case.told("s1 2 5 2;s0 2 9 4;s0 1 4 2;").then("surest(0, 2, 2) = 1", "surest(2, 0, 2) = 0");
    // The first stair is the one at the floor where one begins, the least of those on a surest way alone.
    Case.told("s0 3 1 9;s5 6 1 1;s0 5 1 1;").then("surest(0, 6, 2) = 2", "surest(6, 0, 2) = 1", "surest(0, 3, 2) = 0");
    Case.told("s0 1 9 5;s0 1 9 4;").then("surest(0, 1, 2) = 1", "redeems(0)", "surest(0, 1, 2) = 0", "undo()", "surest(0, 1, 2) = 1");
  }

  private static void surestOfMuch() {
    Case.says("the way by STAIRS by which DUE of them all together is least, of as much that of fewest STEPS");
    // So many steps as there may be are never more than one half that is due.
    Case.told("s0 1 99 0;s1 2 99 0;s2 3 99 0;s3 4 99 0;s4 5 99 0;s5 6 99 0;s0 6 1 1;").then("surest(0, 6, 0) = 0", "surest(0, 6, 1) = 594",
        "surest(0, 6, 2) = 0", "surest(6, 0, 2) = 5");
    Case.told("s0 1 99 40;s1 2 99 40;s2 3 99 40;s3 4 99 40;s4 5 99 40;s5 6 99 40;").then("24 * ends() = 5994", "surest(0, 6, 0) = 5994",
        "surest(6, 0, 1) = 594", "surest(0, 6, 2) = 0");
    // The way round by six stairs, told in the order that is worst for going on from either end.
    Case.told("s5 6 1 1;s4 5 1 1;s3 4 1 1;s2 3 1 1;s1 2 1 1;s0 1 1 1;s0 6 1 7;").then("surest(0, 6, 0) = 6", "surest(0, 6, 1) = 6",
        "surest(0, 6, 2) = 5", "surest(6, 0, 2) = 0");
    Case.told("s0 1 1 1;s1 2 1 1;s2 3 1 1;s3 4 1 1;s4 5 1 1;s5 6 1 1;s0 6 1 6;").then("surest(0, 6, 0) = 6", "surest(0, 6, 1) = 1",
        "surest(0, 6, 2) = 6", "surest(6, 0, 2) = 6");
  }

  private static void bars() {
    Case.says("BARS, as bits (0: there is no way, or from a FLOOR to itself). BAD.");
    Case.told(HOUSE).then("bars(-1, 0) = BAD", "bars(0, -1) = BAD", "bars(7, 0) = BAD", "bars(0, 7) = BAD", "bars(-1, -1) = BAD",
        "bars(7, 7) = BAD", "bars(MIN, 0) = BAD", "bars(0, MAX) = BAD");
    Case.told("s0 1 1 1;s1 2 1 1;").then("bars(0, 0) = 0", "bars(1, 1) = 0", "bars(6, 6) = 0");
    Case.told("s0 1 1 1;s1 2 1 1;").then("bars(0, 6) = 0", "bars(6, 0) = 0", "bars(5, 6) = 0");
    Case.says("STAIRS (bits) without each of which alone there is no way from a FLOOR to another one, though there is one with it.");
    Case.told("s0 6 1 0;").then("bars(0, 6) = 1", "bars(6, 0) = 1");
    Case.told("s0 6 1 1;s6 0 1 1;").then("bars(0, 6) = 0");
    Case.told(SEVEN).then("bars(0, 6) = 0", "bars(0, 3) = 0");
    Case.told("s0 1 1 1;s1 2 1 1;s2 3 1 1;s3 4 1 1;s4 5 1 1;s5 6 1 1;").then("bars(0, 6) = 63", "bars(6, 0) = 63", "bars(2, 3) = 4",
        "bars(3, 1) = 6");
    Case.told("s0 1 1 1;s0 1 1 1;s0 1 1 1;s0 1 1 1;s0 1 1 1;s0 1 1 1;s1 2 1 1;").then("bars(0, 2) = 64", "bars(0, 1) = 0", "bars(2, 1) = 64");
    // A ring with a stair at each end; a stair aside is no bar.
    Case.told("s0 1 1 1;s1 2 1 1;s2 3 1 1;s3 1 1 1;s3 4 1 1;s3 5 1 1;").then("bars(0, 4) = 17", "bars(0, 3) = 1", "bars(1, 3) = 0",
        "bars(5, 4) = 48");
    // What is due bars nothing.
    Case.told("s0 1 1 40;s0 1 1 0;").then("24 * ends()", "bars(0, 1) = 0");
  }

  private static void paidWhereNothingCounts() {
    Case.says("PAID: HURT (what = 0), FALLS (1); NONE. BAD.");
    Case.told(HOUSE).then("paid(-1, 0) = BAD", "paid(3, 0) = BAD", "paid(7, 1) = BAD", "paid(0, -1) = BAD", "paid(0, 2) = BAD",
        "paid(MIN, 0) = BAD", "paid(0, MAX) = BAD");
    Case.told("s0 1 1 1;").then("paid(1, 0) = BAD", "paid(0, 2) = BAD");
    Case.says("HURT; FALLS; NONE (nothing counts, but something is DUE).");
    Case.told("s0 1 1 1;t9;").then("paid(0, 0) = NONE", "paid(0, 1) = NONE");
    Case.told("s0 1 1 0;t9;").then("paid(0, 0) = 0", "paid(0, 1) = 0");
    Case.told("s0 1 1 1;").then("paid(0, 0) = NONE", "throwsDoll(0) = 0", "paid(0, 0) = 0", "paid(0, 1) = 0", "ends()", "paid(0, 1) = NONE");
    Case.told("s0 1 1 0;p0 0 9;p0 0 9;").then("paid(0, 0) = 0", "paid(0, 1) = 0");
  }

  private static void paidJustEnough() {
    Case.says("so that nothing is DUE, with least HURT together, of as little by fewest FALLS (two together are one)");
    Case.told("s0 1 1 1;p1 0 9;").then("paid(0, 0) = 9", "paid(0, 1) = 1");
    Case.told("s0 1 1 1;p0 0 9;").then("paid(0, 0) = 9", "paid(0, 1) = 1");
    Case.told("s0 1 1 2;p0 0 9;").then("paid(0, 0) = 9", "paid(0, 1) = 1");
    Case.told("s0 1 1 3;p0 0 9;").then("paid(0, 0) = 18", "paid(0, 1) = 2");
    Case.told("s0 1 1 40;p1 0 9;").then("24 * ends() = 999", "paid(0, 0) = 8991", "paid(0, 1) = 999");
    Case.told("s0 1 1 40;p0 0 9;").then("24 * ends() = 999", "paid(0, 0) = 4500", "paid(0, 1) = 500");
    Case.told("s0 1 1 40;p1 0 0;p1 0 0;t9;").then("24 * ends() = 999", "paid(0, 0) = 0", "paid(0, 1) = 111");
    Case.told("s0 1 1 40;p0 0 9;p0 0 9;t9;").then("24 * ends() = 999", "paid(0, 0) = 1998", "paid(0, 1) = 111");
    // Two together for nine, and what is left by one, by two together once more, or by one alone.
    Case.told("s0 1 1 9;p0 0 9;p0 0 9;t9;").then("paid(0, 0) = 18", "paid(0, 1) = 1");
    Case.told("s0 1 1 10;p0 0 9;p0 0 9;t9;").then("paid(0, 0) = 27", "paid(0, 1) = 2");
    Case.told("s0 1 1 8;p0 0 9;p0 0 9;t9;").then("paid(0, 0) = 18", "paid(0, 1) = 1");
    Case.told("s0 1 1 2;p0 0 9;p0 0 9;t9;").then("paid(0, 0) = 9", "paid(0, 1) = 1");
    Case.told("s0 1 1 18;p0 0 9;p0 0 9;t9;").then("paid(0, 0) = 36", "paid(0, 1) = 2");
  }

  private static void paidOfSeveral() {
    Case.says("PAID of a STAIR by FALLS (of one, of two together, each as often as one likes; no DOLLS)");
    // One alone is never two; two who count nothing help nothing.
    Case.told("s0 1 1 9;p1 0 1;t9;").then("paid(0, 0) = 9", "paid(0, 1) = 9");
    Case.told("s0 1 1 3;p0 0 5;p1 0 6;t0;").then("paid(0, 0) = 10", "paid(0, 1) = 2");
    Case.told("s0 1 1 1;p0 0 0;p1 0 0;t0;").then("paid(0, 0) = 0", "paid(0, 1) = 1");
    Case.told("s0 1 1 9;d9;p1 0 1;").then("paid(0, 0) = 9", "paid(0, 1) = 9");
    Case.says("so that nothing is DUE, with least HURT together, of as little by fewest FALLS (two together are one)");
    Case.told("s0 1 1 5;p1 0 0;p0 0 1;t5;").then("paid(0, 0) = 0", "paid(0, 1) = 5");
    Case.told("s0 1 1 5;p1 0 0;p0 0 0;t5;").then("paid(0, 0) = 0", "paid(0, 1) = 1");
    Case.told("s0 1 1 4;p1 0 1;p0 0 2;t0;").then("paid(0, 0) = 4", "paid(0, 1) = 2");
    // Of five the two who are hurt least, wherever they stand.
    Case.told("s0 1 1 9;p0 0 9;p0 0 3;p0 0 9;p0 0 9;p0 0 4;t9;").then("paid(0, 0) = 7", "paid(0, 1) = 1");
    Case.told("s0 1 1 9;p0 0 3;p0 0 9;p0 0 9;p0 0 4;p0 0 9;t9;").then("paid(0, 0) = 7", "paid(0, 1) = 1");
    Case.told("s0 1 1 5;p0 0 1;p0 0 2;p0 0 3;p0 0 4;p0 0 5;t5;").then("paid(0, 0) = 3", "paid(0, 1) = 1");
  }

  private static void coinsThatAreBad() {
    Case.says("COINS: what is DUE of all (s = -1), how many coins (-2), coins for a STAIR. BAD.");
    Case.told(HOUSE).then("coins(9, -3) = BAD", "coins(9, 3) = BAD", "coins(9, 7) = BAD", "coins(9, MIN) = BAD", "coins(9, MAX) = BAD");
    Case.told(SEVEN).then("coins(9, 7) = BAD", "coins(99, 6) = 12");
    Case.says("COINS (n, 0 .. 99)");
    for (int s = -2; s <= 2; s++) {
      Case.told(HOUSE).then("coins(-1, " + s + ") = BAD", "coins(100, " + s + ") = BAD");
    }
    Case.told(HOUSE).then("coins(MIN, -1) = BAD", "coins(MAX, -1) = BAD");
    Case.told(HOUSE).then("coins(0, -1) = 16", "coins(0, -2) = 0", "coins(0, 0) = 0", "coins(0, 1) = 0", "coins(0, 2) = 0");
    // 5 is paid by an acrobat and a doll, 11 by three acrobats.
    Case.told(HOUSE).then("coins(99, -1) = 0", "coins(99, -2) = 13", "coins(99, 0) = 4", "coins(99, 1) = 0", "coins(99, 2) = 9");
  }

  /** What is due and how many coins are taken, with so many coins, on one stair. */
  private static void coinsOn(int owes, int dolls, int n, int due, int taken) {
    Case.told("s0 1 1 " + owes + ";d" + dolls + ";").then("coins(" + n + ", -1) = " + due, "coins(" + n + ", -2) = " + taken,
        "coins(" + n + ", 0) = " + taken);
  }

  private static void coinsOnOneStair() {
    Case.says("acrobats may fall (3 coins for 4 HALVES, each as often as one likes)");
    coinsOn(40, 0, 2, 40, 0);
    coinsOn(40, 0, 3, 36, 3);
    coinsOn(40, 0, 5, 36, 3);
    coinsOn(40, 0, 6, 32, 6);
    coinsOn(40, 0, 11, 28, 9);
    coinsOn(1, 0, 2, 1, 0);
    coinsOn(1, 0, 3, 0, 3);
    coinsOn(4, 0, 99, 0, 3);
    coinsOn(5, 0, 99, 0, 6);
    coinsOn(12, 0, 99, 0, 9);
    Case.says("or it is REDEEMED (12 coins)");
    coinsOn(40, 0, 12, 0, 12);
    coinsOn(40, 0, 13, 0, 12);
    coinsOn(40, 0, 99, 0, 12);
    coinsOn(13, 0, 11, 1, 9);
    coinsOn(13, 0, 12, 0, 12);
    coinsOn(16, 0, 12, 0, 12);
    coinsOn(17, 0, 99, 0, 12);
    coinsOn(40, 9, 11, 26, 11);
    coinsOn(40, 9, 12, 0, 12);
    Case.told("s0 1 1 40;").then("24 * ends()", "coins(11, -1) = 985", "coins(12, -1) = 0", "coins(99, -2) = 12");
    Case.says("so that least is DUE of all: how much; of several ways the one of fewest coins: how many");
    coinsOn(0, 9, 99, 0, 0);
    coinsOn(0, 0, 0, 0, 0);
    coinsOn(40, 9, 0, 40, 0);
    coinsOn(3, 9, 99, 0, 3);
    coinsOn(4, 9, 99, 0, 3);
    coinsOn(5, 9, 99, 0, 4);
    coinsOn(14, 9, 99, 0, 11);
    coinsOn(15, 9, 99, 0, 12);
  }

  private static void coinsForDollsThatAreLeft() {
    Case.says("on each STAIR may be thrown DOLLS that are left (a coin each)");
    coinsOn(40, 1, 2, 39, 1);
    coinsOn(40, 2, 2, 38, 2);
    coinsOn(40, 1, 5, 35, 4);
    coinsOn(40, 2, 5, 34, 5);
    coinsOn(1, 1, 1, 0, 1);
    coinsOn(2, 9, 1, 1, 1);
    // Left are those of this year that were not thrown yet, on this stair.
    Case.told("s0 1 1 9;d2;").then("throwsDoll(0)", "coins(2, -1) = 7", "coins(2, -2) = 1", "throwsDoll(0)", "coins(2, -1) = 7", "coins(2, -2) = 0",
        "ends()", "coins(2, -1) = 14", "coins(2, -2) = 2");
    Case.told("s0 1 1 9;s0 1 1 9;d1;").then("throwsDoll(0)", "coins(2, -1) = 16", "coins(2, 0) = 0", "coins(2, 1) = 1");
    Case.told("s0 1 1 40;d9;").then("9 * throwsDoll(0) = 31", "coins(2, -1) = 31", "undo() = 8", "coins(2, -1) = 31", "coins(2, -2) = 1");
    Case.told("s0 1 1 9;").then("coins(2, -1) = 7", "3 * throwsDoll(0)", "coins(2, -1) = 6");
  }

  private static void coinsOnSeveralStairs() {
    Case.says("of several the first (STAIR by STAIR the fewer coins): coins for a STAIR.");
    Case.told("s0 1 1 4;s0 1 1 4;d0;").then("coins(3, -1) = 4", "coins(3, 0) = 0", "coins(3, 1) = 3", "coins(5, 0) = 0", "coins(6, 0) = 3",
        "coins(6, 1) = 3");
    Case.told("s0 1 1 4;s0 1 1 3;d0;").then("coins(3, -1) = 3", "coins(3, 0) = 3", "coins(3, 1) = 0");
    Case.told("s0 1 1 1;s0 1 1 1;s0 1 1 1;d1;").then("coins(1, -1) = 2", "coins(1, 0) = 0", "coins(1, 1) = 0", "coins(1, 2) = 1", "coins(2, 0) = 0",
        "coins(2, 1) = 1", "coins(2, 2) = 1");
    Case.told("s0 1 1 40;s0 1 1 39;").then("coins(12, -1) = 39", "coins(12, 0) = 12", "coins(12, 1) = 0");
    Case.told("s0 1 1 40;s0 1 1 40;").then("coins(12, -1) = 40", "coins(12, 0) = 0", "coins(12, 1) = 12");
    // Seven are redeemed for 84 coins; with one less the first goes without.
    Case.told(SEVEN + "d9;").then("coins(84, -1) = 0", "coins(84, -2) = 84", "coins(84, 0) = 12", "coins(84, 6) = 12", "coins(99, -2) = 84");
    Case.told(SEVEN + "d9;").then("coins(83, -1) = 26", "coins(83, -2) = 83", "coins(83, 0) = 11", "coins(83, 1) = 12", "coins(83, 6) = 12");
    Case.told(SEVEN + "d0;").then("coins(83, -1) = 28", "coins(83, -2) = 81", "coins(83, 0) = 9", "coins(83, 1) = 12");
    Case.told(SEVEN).then("24 * ends()", "coins(0, -1) = 6993", "coins(11, -1) = 6979", "coins(12, -1) = 5994", "coins(12, 6) = 12",
        "coins(12, 0) = 0", "coins(99, -1) = 0");
  }

  private static void freeAtItsEdges() {
    Case.says("FREE; NONE. BAD.");
    Case.told(HOUSE).then("free(-1, 0) = BAD", "free(3, 0) = BAD", "free(7, 99) = BAD", "free(MIN, 0) = BAD", "free(MAX, 0) = BAD");
    Case.says("FREE of a STAIR with n (0 .. 99) HALVES paid on it each YEAR");
    Case.told(HOUSE).then("free(0, -1) = BAD", "free(0, 100) = BAD", "free(0, MIN) = BAD", "free(0, MAX) = BAD", "free(1, -1) = BAD",
        "free(1, 100) = BAD");
    Case.says("0: nothing is DUE now; NONE.");
    Case.told("s0 1 1 0;").then("free(0, 0) = 0", "free(0, 99) = 0");
    Case.told("s0 1 1 9;").then("redeems(0)", "free(0, 0) = 0", "free(0, 99) = 0", "ends()", "free(0, 9) = 1");
    Case.told("s0 1 1 1;").then("free(0, 0) = NONE", "free(0, 1) = 1", "free(0, 99) = 1");
    Case.told("s0 1 1 9;").then("free(0, 8) = NONE", "free(0, 9) = 1", "free(0, 10) = 1", "ends()", "free(0, 9) = NONE", "free(0, 10) = 9",
        "free(0, 17) = 2", "free(0, 18) = 1");
    // What it owes comes between the years, not ahead of the first one.
    Case.told("s0 1 1 40;").then("free(0, 40) = 1", "free(0, 39) = NONE", "free(0, 0) = NONE");
  }

  private static void freeInTheLastYear() {
    Case.says("the first YEAR from now (1 to 99) in which, n HALVES being paid in it and in each one ahead of it (what it OWES comes anew between them), nothing is DUE then");
    String house = "s0 1 1 0;s0 1 1 40;s0 1 1 40;s0 1 1 40;";
    String[] to99 = {"sells(1, 0, 40)", "sells(2, 0, 40)", "sells(3, 0, 19)", "stair(0, 4) = 99"};
    Case.told(house).then(to99).then("free(0, 1) = 99", "free(0, 98) = 2", "free(0, 99) = 1", "free(0, 0) = NONE");
    Case.told(house).then(to99).then("sells(3, 0, 1)", "free(0, 1) = NONE", "free(0, 2) = 50", "free(0, 99) = 2");
    String owing = "s0 1 1 1;s0 1 1 40;s0 1 1 40;s0 1 1 40;";
    Case.told(owing).then("sells(1, 0, 40)", "sells(2, 0, 40)", "sells(3, 0, 19)", "stair(0, 4) = 100", "free(0, 2) = 99", "sells(3, 0, 1)",
        "free(0, 2) = NONE", "free(0, 3) = 50");
    Case.told("s0 1 1 40;").then("24 * ends() = 999", "free(0, 49) = NONE", "free(0, 50) = 96", "free(0, 99) = 17", "free(0, 40) = NONE",
        "free(0, 0) = NONE");
    // So many years from now, whatever year it is.
    Case.told("s0 1 1 40;").then("99 * ends() = 999", "free(0, 50) = 96", "free(0, 99) = 17");
  }

  private static void whoThatIsBad() {
    Case.says("WHO: how many ways (what = 0), in each (1, bits), in some (2, bits). BAD.");
    Case.told(HOUSE).then("who(0, 0, 0, -1) = BAD", "who(0, 0, 0, 3) = BAD", "who(0, 0, 0, MIN) = BAD", "who(0, 0, 0, MAX) = BAD");
    Case.says("WHO fell k (0 .. 6) times, each by himself (one may often), so that it counted d (0 .. 99) HALVES and HURT h (0 .. 99)");
    for (int what = 0; what <= 2; what++) {
      Case.told(HOUSE).then("who(-1, 0, 0, " + what + ") = BAD", "who(7, 0, 0, " + what + ") = BAD", "who(0, -1, 0, " + what + ") = BAD",
          "who(0, 100, 0, " + what + ") = BAD", "who(0, 0, -1, " + what + ") = BAD", "who(0, 0, 100, " + what + ") = BAD");
    }
    Case.told(HOUSE).then("who(MIN, 0, 0, 0) = BAD", "who(MAX, 0, 0, 0) = BAD", "who(0, MAX, 0, 0) = BAD", "who(0, 0, MIN, 0) = BAD");
    Case.told("p0 0 0;").then("who(7, 14, 0, 0) = BAD", "who(6, 12, 0, 0) = 1");
  }

  private static void whoAtItsEdges() {
    Case.says("how many ways (how often each one did; in no order); PEOPLE (bits) who did in each way (0, if there is none); in some way (bits).");
    Case.told(HOUSE).then("who(0, 0, 0, 0) = 1", "who(0, 0, 0, 1) = 0", "who(0, 0, 0, 2) = 0");
    Case.told(HOUSE).then("who(0, 1, 0, 0) = 0", "who(0, 0, 1, 0) = 0", "who(0, 99, 99, 0) = 0", "who(0, 99, 99, 1) = 0");
    Case.told(HOUSE).then("who(1, 1, 0, 0) = 0", "who(1, 1, 0, 1) = 0", "who(1, 1, 0, 2) = 0");
    Case.told(HOUSE).then("who(1, 2, 4, 0) = 1", "who(1, 2, 4, 1) = 1", "who(1, 2, 4, 2) = 1");
    Case.told(HOUSE).then("who(2, 3, 5, 0) = 1", "who(2, 3, 5, 1) = 3", "who(2, 3, 5, 2) = 3", "who(2, 3, 4, 0) = 0", "who(2, 2, 5, 0) = 0");
    Case.told("p0 0 9;").then("who(6, 12, 54, 0) = 1", "who(6, 12, 54, 1) = 1", "who(6, 12, 54, 2) = 1", "who(6, 12, 53, 0) = 0",
        "who(6, 13, 54, 0) = 0", "who(5, 12, 54, 0) = 0", "who(6, 99, 99, 0) = 0");
    Case.told("p1 0 0;").then("who(6, 6, 0, 0) = 1", "who(6, 12, 0, 0) = 0");
    String five = "p0 0 0;p0 0 0;p0 0 0;p0 0 0;p0 0 0;";
    Case.told(five).then("who(6, 12, 0, 0) = 210", "who(6, 12, 0, 1) = 0", "who(6, 12, 0, 2) = 31", "who(1, 2, 0, 0) = 5", "who(1, 2, 0, 1) = 0");
    Case.told(five).then("who(0, 0, 0, 0) = 1", "who(0, 0, 0, 2) = 0");
    // What was asked ahead of it leaves nothing.
    Case.told(five).then("who(6, 12, 0, 2) = 31", "who(0, 0, 0, 2) = 0", "who(6, 12, 0, 0) = 210", "who(1, 2, 0, 0) = 5", "who(1, 1, 0, 2) = 0");
    // The last of five alone, in each way and in some.
    Case.told("p1 0 0;p1 0 0;p1 0 0;p1 0 0;p0 0 9;").then("who(1, 2, 9, 0) = 1", "who(1, 2, 9, 1) = 16", "who(1, 2, 9, 2) = 16",
        "who(2, 3, 9, 0) = 4", "who(2, 3, 9, 1) = 16", "who(2, 3, 9, 2) = 31", "who(6, 12, 54, 1) = 16");
    // How often is looked at, the order is not, and nobody is together with another.
    Case.told("p0 0 1;p0 0 2;p0 0 3;t9;").then("who(2, 4, 4, 0) = 2", "who(2, 4, 4, 1) = 0", "who(2, 4, 4, 2) = 7", "who(2, 4, 3, 0) = 1",
        "who(2, 9, 3, 0) = 0", "who(1, 9, 3, 0) = 0");
  }

  private static void oddsAre(String people, int d, int upper, int lower) {
    Case.told(people).then("odds(" + d + ", 0) = " + upper, "odds(" + d + ", 1) = " + lower);
  }

  private static void oddsAtTheirEdges() {
    Case.says("ODDS: upper (what = 0), lower number (1), in least terms. BAD.");
    Case.told(HOUSE).then("odds(0, -1) = BAD", "odds(0, 2) = BAD", "odds(0, MIN) = BAD", "odds(0, MAX) = BAD");
    Case.says("ODDS (d, 0 .. 99)");
    for (int what = 0; what <= 1; what++) {
      Case.told(HOUSE).then("odds(-1, " + what + ") = BAD", "odds(100, " + what + ") = BAD", "odds(MIN, " + what + ") = BAD",
          "odds(MAX, " + what + ") = BAD");
    }
    oddsAre(HOUSE, 0, 1, 1);
    oddsAre(HOUSE, 99, 0, 1);
    Case.says("tomorrow each PERSON falls by 10 less CARE in ten, each by himself: that it counts d HALVES or more together (nobody together): a fraction.");
    oddsAre("", 0, 1, 1);
    oddsAre("", 1, 0, 1);
    oddsAre("p0 10 0;", 0, 1, 1);
    oddsAre("p0 10 0;", 1, 0, 1);
    oddsAre("p0 0 0;", 2, 1, 1);
    oddsAre("p0 0 0;", 3, 0, 1);
    oddsAre("p1 0 0;", 1, 1, 1);
    oddsAre("p1 0 0;", 2, 0, 1);
    oddsAre("p0 9 0;", 1, 1, 10);
    oddsAre("p0 1 0;", 2, 9, 10);
    oddsAre("p0 5 0;", 1, 1, 2);
    oddsAre("p0 8 0;", 2, 1, 5);
    String sure = "p0 0 0;p0 0 0;p0 0 0;p0 0 0;p0 0 0;";
    oddsAre(sure, 10, 1, 1);
    oddsAre(sure, 11, 0, 1);
    oddsAre("p1 0 0;p1 0 0;p1 0 0;p1 0 0;p1 0 0;", 5, 1, 1);
    oddsAre("p1 0 0;p1 0 0;p1 0 0;p1 0 0;p1 0 0;", 6, 0, 1);
    oddsAre("p0 9 0;p0 9 0;p0 9 0;p0 9 0;p0 9 0;", 10, 1, 100000);
    oddsAre("p0 9 0;p0 9 0;p0 9 0;p0 9 0;p0 9 0;", 9, 1, 100000);
    oddsAre("p0 1 0;p0 1 0;p0 1 0;p0 1 0;p0 1 0;", 1, 99999, 100000);
    // Two at once count as each by himself, whatever two together count.
    oddsAre("p0 0 0;p1 0 0;t9;", 3, 1, 1);
    oddsAre("p0 0 0;p1 0 0;t9;", 4, 0, 1);
    oddsAre("p0 5 0;p1 5 0;", 1, 3, 4);
    oddsAre("p0 5 0;p1 5 0;", 2, 1, 2);
    oddsAre("p0 5 0;p1 5 0;", 3, 1, 4);
  }
}
