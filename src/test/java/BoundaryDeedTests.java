/** Promises 5 to 15 at their boundaries: what there is, what is done, what is undone. A case for each. */
public final class BoundaryDeedTests {
  private static final String SEVEN = "s0 1 1 40;s1 2 1 40;s2 3 1 40;s3 4 1 40;s4 5 1 40;s5 6 1 40;s6 0 1 40;";
  private static final String FIVE = "p0 0 1;p1 1 2;p0 2 3;p1 3 4;p0 10 9;";
  // Three stairs, two people, 2 dolls a year, 5 halves for two together.
  private static final String HOUSE = "s0 1 9 5;s1 2 20 0;s0 2 3 11;p0 3 4;p1 8 1;d2;t5;";
  private static final String[] WAY = {"falls(0, 2)", "throwsDoll(0)", "sells(2, 0, 3)", "keep(0)", "ends()", "sells(0, 1, 2)",
      "throwsDoll(1)", "throwsDoll(1)", "redeems(1)", "mark(3, 0)", "type(115)"};
  // Stair 0 has 108 due, stair 1 has 916, in the YEAR 24.
  private static final String NEAR_FULL = "s0 1 1 40;s0 1 1 1;";
  private static final String[] TO_916 = {"24 * ends() = 1024", "9 * sells(0, 1, 99)", "stair(0, 4) = 108", "stair(1, 4) = 916"};

  public static void main(String[] args) {
    stairs();
    prices();
    people();
    bonds();
    fallsThatAreRefused();
    fallsThatCount();
    twoTogether();
    dolls();
    dollsThatAreRefused();
    salesThatAreBad();
    salesOfTooMuch();
    salesToAFullStair();
    redeemed();
    yearsThatEnd();
    lastYear();
    undone();
    undoneAndLost();
    allHurt();
    nowAtItsEdges();
    struckRings();
    struckInOrder();
    Case.end();
  }

  private static void stairs() {
    Case.says("Of a STAIR: 0, 1 its FLOORS as told, 2 STEPS, 3 what it OWES, 4 DUE, 5 DOLLS thrown, 6 its PRICE. BAD.");
    for (int what = 0; what <= 6; what++) {
      Case.told(HOUSE).then("stair(-1, " + what + ") = BAD", "stair(3, " + what + ") = BAD", "stair(7, " + what + ") = BAD");
      Case.told(SEVEN).then("stair(7, " + what + ") = BAD");
    }
    Case.told(HOUSE).then("stair(0, -1) = BAD", "stair(0, 7) = BAD", "stair(2, -1) = BAD", "stair(2, 7) = BAD");
    Case.told(HOUSE).then("stair(MIN, 0) = BAD", "stair(MAX, 0) = BAD", "stair(0, MIN) = BAD", "stair(0, MAX) = BAD");
    Case.told(SEVEN).then("stair(6, 0) = 6", "stair(6, 1) = 0", "stair(6, 2) = 1", "stair(6, 3) = 40", "stair(6, 4) = 40",
        "stair(6, 5) = 0", "stair(6, 6) = 359");
    Case.says("A STAIR has DUE (what it OWES at first), DOLLS thrown this YEAR (0).");
    Case.told("s0 1 1 0;s0 1 1 40;").then("stair(0, 4) = 0", "stair(1, 4) = 40", "stair(0, 5) = 0", "stair(1, 5) = 0");
    Case.told(HOUSE).then("stair(2, 0) = 0", "stair(2, 1) = 2");
    Case.told("s6 0 1 1;").then("stair(0, 0) = 6", "stair(0, 1) = 0");
  }

  private static void prices() {
    Case.says("PRICE of a STAIR: 9 times what is DUE, less STEPS, 0 at least.");
    Case.told("s0 1 8 1;").then("stair(0, 6) = 1");
    Case.told("s0 1 9 1;").then("stair(0, 6) = 0");
    Case.told("s0 1 10 1;").then("stair(0, 6) = 0");
    Case.told("s0 1 99 0;").then("stair(0, 6) = 0");
    Case.told("s0 1 1 0;").then("stair(0, 6) = 0");
    Case.told("s0 1 99 11;").then("stair(0, 6) = 0");
    Case.told("s0 1 98 11;").then("stair(0, 6) = 1");
    Case.told("s0 1 1 40;").then("24 * ends() = 999", "stair(0, 6) = 8990");
  }

  private static void people() {
    Case.says("Of a PERSON: 0 CHILD, 1 CARE, 2 HURT by a fall. BAD.");
    for (int what = 0; what <= 2; what++) {
      Case.told(HOUSE).then("person(-1, " + what + ") = BAD", "person(2, " + what + ") = BAD", "person(5, " + what + ") = BAD");
      Case.told(FIVE).then("person(5, " + what + ") = BAD");
    }
    Case.told(HOUSE).then("person(0, -1) = BAD", "person(0, 3) = BAD", "person(1, -1) = BAD", "person(1, 3) = BAD");
    Case.told(HOUSE).then("person(MIN, 0) = BAD", "person(MAX, 0) = BAD", "person(0, MIN) = BAD", "person(0, MAX) = BAD");
    Case.told(FIVE).then("person(4, 0) = 0", "person(4, 1) = 10", "person(4, 2) = 9", "person(0, 2) = 1");
  }

  private static void bonds() {
    Case.says("The BOND of a STAIR to another one. BAD (alike ones, too).");
    Case.told(HOUSE).then("bond(0, 0) = BAD", "bond(2, 2) = BAD", "bond(3, 3) = BAD", "bond(-1, -1) = BAD");
    Case.told(HOUSE).then("bond(-1, 0) = BAD", "bond(0, -1) = BAD", "bond(3, 0) = BAD", "bond(0, 3) = BAD");
    Case.told(SEVEN).then("bond(7, 0) = BAD", "bond(0, 7) = BAD", "bond(6, 6) = BAD", "bond(MIN, 0) = BAD", "bond(0, MAX) = BAD");
    Case.told(SEVEN).then("sells(6, 5, 1) = 39", "sells(0, 6, 40) = 0", "bond(6, 5) = 1", "bond(0, 6) = 40", "bond(5, 6) = 0",
        "bond(6, 0) = 0");
    Case.says("BONDS: how much one STAIR SOLD to which one in all (till a YEAR ends: they are forgotten then).");
    Case.told(SEVEN).then("bond(0, 1) = 0", "sells(0, 1, 3)", "sells(0, 1, 4)", "bond(0, 1) = 7", "bond(1, 0) = 0");
    Case.told(SEVEN).then("sells(0, 1, 3)", "falls(0, 1) = BAD", "redeems(1) = 43", "redeems(0) = 37", "bond(0, 1) = 3");
    Case.told(SEVEN).then("sells(0, 1, 3)", "sells(1, 0, 3)", "bond(0, 1) = 3", "bond(1, 0) = 3");
    Case.told(SEVEN).then("sells(0, 1, 3)", "sells(6, 5, 4)", "ends()", "bond(0, 1) = 0", "bond(6, 5) = 0", "undo()",
        "bond(0, 1) = 3", "bond(6, 5) = 4");
    // 999 is the most that is due, not the most that was sold.
    Case much = Case.told("s0 1 1 40;s0 1 1 40;").then("24 * ends()", "redeems(1)");
    for (int i = 0; i < 11; i++) {
      much.then("sells(0, 1, 90) = 909", "sells(1, 0, 90) = 0");
    }
    much.then("bond(0, 1) = 990", "sells(0, 1, 90)", "bond(0, 1) = 1080", "bond(1, 0) = 990", "now(5) = 1980");
  }

  private static void fallsThatAreRefused() {
    Case.says("A FALL: what is DUE then. BAD.");
    Case.leavesAll(HOUSE, WAY, "falls(-1, 0) = BAD", "falls(2, 0) = BAD", "falls(0, -1) = BAD", "falls(0, 3) = BAD",
        "falls(-1, -1) = BAD", "falls(MIN, 0) = BAD", "falls(0, MAX) = BAD");
    Case.told(SEVEN + FIVE).then("falls(5, 0) = BAD", "falls(0, 7) = BAD", "falls(4, 6) = 38", "now(3) = 9");
    Case.told("s0 1 1 1;").then("falls(0, 0) = BAD");
    Case.told("p0 0 0;").then("falls(0, 0) = BAD");
  }

  private static void fallsThatCount() {
    Case.says("What counts is less DUE (0 at least).");
    Case.told("s0 1 1 3;p0 0 0;").then("falls(0, 0) = 1", "stair(0, 4) = 1");
    Case.told("s0 1 1 2;p0 0 0;").then("falls(0, 0) = 0", "stair(0, 4) = 0");
    Case.told("s0 1 1 1;p0 0 0;").then("falls(0, 0) = 0", "stair(0, 4) = 0", "ends() = 1");
    Case.told("s0 1 1 0;p0 0 4;").then("falls(0, 0) = 0", "stair(0, 4) = 0", "now(3) = 4", "count(4) = 1", "undo() = 0", "now(3) = 0");
    Case.told("s0 1 1 2;p1 0 0;").then("falls(0, 0) = 1", "falls(0, 0) = 0", "falls(0, 0) = 0", "now(1) = 0");
    Case.told("s0 1 1 1;s0 1 1 1;p0 0 0;").then("falls(0, 0) = 0", "stair(1, 4) = 1");
    Case.told("s0 1 1 40;p0 0 0;").then("24 * ends() = 999", "falls(0, 0) = 997");
    Case.says("A FALL of a PERSON counts 2 HALVES (a CHILD 1), of two unlike ones together PAIR; a DOLL 1.");
    Case.told("s0 1 1 40;p0 0 0;p1 0 0;").then("falls(0, 0) = 38", "falls(1, 0) = 37", "together(0, 1, 0) = 34", "throwsDoll(0) = 33");
  }

  private static void twoTogether() {
    Case.says("Two FALL together: what is DUE then. BAD (alike ones, too).");
    Case.leavesAll(HOUSE, WAY, "together(0, 0, 0) = BAD", "together(1, 1, 0) = BAD", "together(-1, 0, 0) = BAD",
        "together(0, -1, 0) = BAD", "together(2, 0, 0) = BAD", "together(0, 2, 0) = BAD", "together(0, 1, -1) = BAD",
        "together(0, 1, 3) = BAD", "together(2, 2, 0) = BAD", "together(MIN, 0, 0) = BAD", "together(0, 1, MAX) = BAD");
    Case.told("s0 1 1 9;p0 0 0;").then("together(0, 1, 0) = BAD", "together(0, 0, 0) = BAD");
    Case.told(SEVEN + FIVE).then("together(5, 0, 0) = BAD", "together(0, 5, 0) = BAD", "together(3, 4, 7) = BAD",
        "together(4, 3, 6) = 37", "now(3) = 13", "together(0, 4, 6) = 34", "now(3) = 23");
    Case.says("What counts is less DUE (0 at least).");
    Case.told("s0 1 1 9;p0 0 1;p1 0 2;t0;").then("together(0, 1, 0) = 9", "now(3) = 3", "count(4) = 1");
    Case.told("s0 1 1 10;p0 0 1;p1 0 2;t9;").then("together(0, 1, 0) = 1", "together(1, 0, 0) = 0", "now(1) = 0", "now(3) = 6");
    Case.told("s0 1 1 9;p1 0 0;p1 0 0;t9;").then("together(0, 1, 0) = 0", "together(0, 1, 0) = 0", "count(4) = 2");
    Case.told("s0 1 1 8;p1 0 0;p1 0 0;t9;").then("together(0, 1, 0) = 0", "ends() = 8");
  }

  private static void dolls() {
    Case.says("A DOLL: what is DUE then. BAD; STATE: all are thrown.");
    Case.told("s0 1 1 9;d0;").then("throwsDoll(0) = STATE", "stair(0, 4) = 9", "stair(0, 5) = 0", "count(4) = 0");
    Case.told("s0 1 1 9;d1;").then("throwsDoll(0) = 8", "throwsDoll(0) = STATE", "stair(0, 4) = 8", "stair(0, 5) = 1", "count(4) = 1");
    Case.told("s0 1 1 9;").then("2 * throwsDoll(0)", "throwsDoll(0) = 6", "throwsDoll(0) = STATE");
    Case.told("s0 1 1 40;d9;").then("8 * throwsDoll(0) = 32", "throwsDoll(0) = 31", "throwsDoll(0) = STATE", "stair(0, 5) = 9");
    // So many on each stair, and in each year.
    Case.told("s0 1 1 9;s0 1 1 9;d1;").then("throwsDoll(0) = 8", "throwsDoll(1) = 8", "throwsDoll(0) = STATE", "throwsDoll(1) = STATE");
    Case.told("s0 1 1 9;d1;").then("throwsDoll(0)", "ends() = 17", "stair(0, 5) = 0", "throwsDoll(0) = 16", "throwsDoll(0) = STATE");
    Case.told("s0 1 1 9;d1;").then("throwsDoll(0) = 8", "undo() = 0", "stair(0, 5) = 0", "throwsDoll(0) = 8", "throwsDoll(0) = STATE");
    Case.told("s0 1 1 9;d1;").then("throwsDoll(0)", "ends()", "undo() = 1", "throwsDoll(0) = STATE");
    Case.says("What counts is less DUE (0 at least).");
    Case.told("s0 1 1 1;").then("throwsDoll(0) = 0", "throwsDoll(0) = 0", "stair(0, 5) = 2", "now(1) = 0", "now(3) = 0");
  }

  private static void dollsThatAreRefused() {
    Case.says("A DOLL: what is DUE then. BAD; STATE: all are thrown.");
    Case.leavesAll(HOUSE, WAY, "throwsDoll(-1) = BAD", "throwsDoll(3) = BAD", "throwsDoll(7) = BAD", "throwsDoll(MIN) = BAD",
        "throwsDoll(MAX) = BAD");
    Case.leavesAll(HOUSE, WAY, "throwsDoll(1) = STATE", "throwsDoll(1) = STATE");
    Case.told(SEVEN).then("throwsDoll(7) = BAD", "throwsDoll(6) = 39");
    Case.says("Refused, and nothing changes, the first of these: BAD (a number is not as told, or there is no such thing), STATE (as told), FULL.");
    Case.told("s0 1 1 9;d0;").then("throwsDoll(-1) = BAD", "throwsDoll(1) = BAD", "throwsDoll(0) = STATE");
  }

  private static void salesThatAreBad() {
    Case.says("SOLD: what is DUE of the first then. BAD (alike ones, too); STATE: not so much is DUE; FULL: the other one would have above 999.");
    Case.leavesAll(HOUSE, WAY, "sells(0, 0, 1) = BAD", "sells(2, 2, 1) = BAD", "sells(-1, 0, 1) = BAD", "sells(0, -1, 1) = BAD",
        "sells(3, 0, 1) = BAD", "sells(0, 3, 1) = BAD", "sells(MIN, 0, 1) = BAD", "sells(0, MAX, 1) = BAD");
    Case.told(SEVEN).then("sells(7, 0, 1) = BAD", "sells(0, 7, 1) = BAD", "sells(6, 6, 1) = BAD", "sells(6, 0, 1) = 39", "sells(0, 6, 1) = 40");
    Case.says("SOLD: n (1 .. 99) HALVES of the DUE of a STAIR go to another one (999 at most).");
    Case.leavesAll(HOUSE, WAY, "sells(0, 2, 0) = BAD", "sells(0, 2, -1) = BAD", "sells(0, 2, 100) = BAD", "sells(0, 2, MIN) = BAD",
        "sells(0, 2, MAX) = BAD");
    Case.told(SEVEN).then("4 * ends()", "sells(0, 1, 1) = 199", "bond(0, 1) = 1", "stair(1, 4) = 201");
    Case.told(SEVEN).then("4 * ends()", "sells(0, 1, 99) = 101", "bond(0, 1) = 99", "stair(1, 4) = 299", "now(1) = 1400");
    Case.told(SEVEN).then("4 * ends()", "sells(0, 1, 100) = BAD", "stair(0, 4) = 200", "stair(1, 4) = 200", "bond(0, 1) = 0");
  }

  private static void salesOfTooMuch() {
    Case.says("STATE: not so much is DUE");
    Case.told(HOUSE).then("sells(2, 0, 11) = 0", "stair(0, 4) = 16");
    Case.told(HOUSE).then("sells(2, 0, 12) = STATE", "stair(2, 4) = 11", "stair(0, 4) = 5", "bond(2, 0) = 0", "count(4) = 0");
    Case.told(HOUSE).then("sells(1, 0, 1) = STATE");
    Case.told(HOUSE).then("sells(0, 1, 99) = STATE");
    Case.leavesAll(HOUSE, WAY, "sells(0, 1, 99) = STATE", "sells(1, 0, 1) = STATE");
    Case.says("Refused, and nothing changes, the first of these: BAD (a number is not as told, or there is no such thing), STATE (as told), FULL.");
    Case.told(HOUSE).then("sells(1, 1, 1) = BAD", "sells(1, 3, 1) = BAD", "sells(1, 0, 0) = BAD", "sells(1, 0, 100) = BAD",
        "sells(1, 0, 1) = STATE");
  }

  private static void salesToAFullStair() {
    Case.says("FULL: the other one would have above 999.");
    Case.told(NEAR_FULL).then(TO_916).then("sells(0, 1, 83) = 25", "stair(1, 4) = 999", "sells(0, 1, 1) = FULL", "stair(1, 4) = 999");
    Case.told(NEAR_FULL).then(TO_916).then("sells(0, 1, 84) = FULL", "stair(0, 4) = 108", "stair(1, 4) = 916", "bond(0, 1) = 891",
        "count(4) = 10");
    Case.told(NEAR_FULL).then(TO_916).then("sells(0, 1, 99) = FULL", "sells(0, 1, 83) = 25");
    Case.leavesAll(NEAR_FULL, TO_916, "sells(0, 1, 84) = FULL");
    // The one that sells may have 999.
    Case.told(NEAR_FULL).then("24 * ends()", "stair(0, 4) = 999", "sells(0, 1, 99) = 900", "sells(1, 0, 99) = 25", "stair(0, 4) = 999",
        "sells(1, 0, 1) = FULL");
    Case.says("Refused, and nothing changes, the first of these: BAD (a number is not as told, or there is no such thing), STATE (as told), FULL.");
    Case.told(NEAR_FULL).then(TO_916).then("sells(0, 1, 83) = 25", "sells(0, 1, 26) = STATE", "sells(0, 1, 25) = FULL",
        "sells(0, 1, 100) = BAD", "sells(0, 1, 0) = BAD");
  }

  private static void redeemed() {
    Case.says("REDEEMED: what was DUE. BAD; STATE: nothing is.");
    Case.told("s0 1 1 1;").then("redeems(0) = 1", "stair(0, 4) = 0", "redeems(0) = STATE", "count(4) = 1");
    Case.told("s0 1 1 0;").then("redeems(0) = STATE", "count(4) = 0");
    Case.told("s0 1 1 40;").then("24 * ends()", "redeems(0) = 999", "now(1) = 0", "undo()", "now(1) = 999");
    Case.told("s0 1 1 1;p0 0 0;").then("falls(0, 0) = 0", "redeems(0) = STATE");
    Case.told("s0 1 1 1;").then("redeems(0) = 1", "ends() = 1", "redeems(0) = 1");
    Case.told(SEVEN).then("redeems(6) = 40", "redeems(7) = BAD", "now(1) = 240");
    Case.leavesAll(HOUSE, WAY, "redeems(-1) = BAD", "redeems(3) = BAD", "redeems(7) = BAD", "redeems(MIN) = BAD", "redeems(MAX) = BAD");
    Case.leavesAll(HOUSE, WAY, "redeems(1) = STATE");
  }

  private static void yearsThatEnd() {
    Case.says("A YEAR ends: each STAIR's DUE is more by what it OWES (999 at most), no DOLLS are thrown, the YEAR is one more.");
    Case.told("s0 1 1 37;").then("25 * ends() = 962", "ends() = 999", "ends() = 999", "stair(0, 4) = 999");
    Case.told("s0 1 1 40;").then("23 * ends() = 960", "ends() = 999", "ends() = 999");
    Case.told(NEAR_FULL).then(TO_916).then("sells(0, 1, 82) = 26", "stair(1, 4) = 998", "ends() = 1065", "stair(1, 4) = 999", "ends() = 1105",
        "stair(1, 4) = 999");
    Case.told(SEVEN).then("99 * ends() = 6993", "now(1) = 6993");
    Case.told("s0 1 1 0;").then("99 * ends() = 0");
    Case.told("s0 1 1 1;").then("99 * ends() = 100");
    Case.told(SEVEN + "d9;").then("throwsDoll(0)", "9 * throwsDoll(6)", "ends() = 550", "stair(0, 5) = 0", "stair(6, 5) = 0", "now(0) = 1");
    // What is hurt and told stays.
    Case.told(HOUSE).then("falls(0, 0)", "ends()", "now(3) = 4", "stair(0, 3) = 5", "count(2) = 2");
  }

  private static void lastYear() {
    Case.says("A YEAR ends: what is DUE of all then. STATE: it is YEAR 99.");
    Case.told("s0 1 1 1;").then("98 * ends() = 99", "now(0) = 98", "ends() = 100", "now(0) = 99", "ends() = STATE", "now(0) = 99",
        "stair(0, 4) = 100");
    Case.told("s0 1 1 1;").then("99 * ends()", "ends() = STATE", "count(4) = 10", "undo() = 9", "now(0) = 98", "ends() = 100",
        "ends() = STATE");
    String[] way = {"97 * ends()", "keep(0)", "2 * ends()", "sells(0, 1, 9)", "throwsDoll(0)"};
    Case.leavesAll("s0 1 1 1;s0 1 1 1;", way, "ends() = STATE", "ends() = STATE");
    // What else is done goes on in the last year.
    Case.told(HOUSE).then("99 * ends()", "falls(0, 0) = 498", "throwsDoll(0) = 497", "sells(0, 1, 1) = 496", "redeems(0) = 496");
  }

  private static void undone() {
    Case.says("UNDONE: how many more may be. STATE: none.");
    Case.told(HOUSE).then("undo() = STATE", "count(4) = 0");
    Case.told(HOUSE).then("falls(0, 0) = 3", "undo() = 0", "stair(0, 4) = 5", "now(3) = 0", "undo() = STATE");
    Case.told(HOUSE).then("together(0, 1, 0) = 0", "undo() = 0", "stair(0, 4) = 5", "now(3) = 0", "undo() = STATE");
    Case.told(HOUSE).then("throwsDoll(0) = 4", "undo() = 0", "stair(0, 4) = 5", "stair(0, 5) = 0", "undo() = STATE");
    Case.told(HOUSE).then("sells(0, 1, 3) = 2", "undo() = 0", "stair(0, 4) = 5", "stair(1, 4) = 0", "bond(0, 1) = 0", "undo() = STATE");
    Case.told(HOUSE).then("redeems(0) = 5", "undo() = 0", "stair(0, 4) = 5", "undo() = STATE");
    Case.told(HOUSE).then("throwsDoll(0)", "sells(0, 1, 1)", "ends() = 31", "undo() = 2", "now(0) = 0", "now(1) = 15", "stair(0, 5) = 1",
        "bond(0, 1) = 1");
    Case.told(HOUSE).then("keep(0)", "mark(0, 0)", "stair(0, 0)", "surest(0, 1, 0)", "coins(9, -1)", "now(5)", "type(64)", "clear()",
        "count(4) = 0", "undo() = STATE");
    // What is refused is not known.
    Case.told(HOUSE).then("falls(0, 0)", "redeems(1) = STATE", "sells(1, 0, 1) = STATE", "falls(9, 9) = BAD", "undo() = 0", "now(3) = 0");
    // What was undone can't be done again by undoing.
    Case.told(HOUSE).then("falls(0, 0)", "falls(0, 0)", "undo() = 1", "undo() = 0", "undo() = STATE", "stair(0, 4) = 5");
    Case.leavesAll(HOUSE, new String[] {"keep(0)", "mark(5, 0)", "type(64)"}, "undo() = STATE", "undo() = STATE");
    // The text and the trace are nothing that is done.
    Case.told(HOUSE).then("falls(0, 0)", "type(64) = 1", "mark(0, 0) = 3", "undo() = 0", "count(5) = 1", "trace() = 1");
  }

  private static void undoneAndLost() {
    Case.says("UNDONE: the latest of all these (10 are known, older ones are lost): all is as ahead of it.");
    Case.told("s0 1 1 40;p1 0 1;").then("9 * falls(0, 0) = 31", "count(4) = 9", "falls(0, 0) = 30", "count(4) = 10", "falls(0, 0) = 29",
        "count(4) = 10");
    Case.told("s0 1 1 40;p1 0 1;").then("10 * falls(0, 0)", "undo() = 9", "8 * undo() = 1", "undo() = 0", "stair(0, 4) = 40", "now(3) = 0",
        "undo() = STATE");
    Case.told("s0 1 1 40;p1 0 1;").then("11 * falls(0, 0)", "undo() = 9", "9 * undo() = 0", "stair(0, 4) = 39", "now(3) = 1", "undo() = STATE",
        "stair(0, 4) = 39");
    Case.told("s0 1 1 40;p1 0 1;").then("35 * falls(0, 0) = 5", "10 * undo() = 0", "stair(0, 4) = 15", "undo() = STATE");
    // To and fro over the place where the eleventh takes the first one's.
    Case x = Case.told("s0 1 1 40;p1 0 1;").then("7 * falls(0, 0) = 33", "3 * undo() = 4", "stair(0, 4) = 36", "9 * falls(0, 0) = 27",
        "count(4) = 10");
    for (int left = 9; left >= 0; left--) {
      x.then("undo() = " + left, "stair(0, 4) = " + (37 - left));
    }
    x.then("undo() = STATE", "falls(0, 0) = 36", "undo() = 0", "stair(0, 4) = 37", "undo() = STATE");
    Case.told("s0 1 1 40;p1 0 1;").then("10 * falls(0, 0)", "10 * undo() = 0", "10 * falls(0, 0) = 30", "count(4) = 10", "10 * undo() = 0",
        "stair(0, 4) = 40");
    Case.told("s0 1 1 40;p1 0 1;").then("12 * falls(0, 0)", "undo() = 9", "falls(0, 0) = 28", "count(4) = 10", "undo() = 9", "stair(0, 4) = 29");
  }

  private static void allHurt() {
    Case.says("All HURT is added up (999999 at most: it stays there).");
    String house = "s0 1 1 0;p0 0 9;p0 0 9;p0 0 1;";
    Case.told(house).then("falls(0, 0)", "now(3) = 9", "together(0, 1, 0)", "now(3) = 27", "ends()", "now(3) = 27", "falls(2, 0)", "now(3) = 28");
    Case.told("s0 1 1 0;p0 0 0;").then("falls(0, 0)", "now(3) = 0");
    // No 512 calls hurt so much, but there is no other way to see the limit.
    Case.told(house).goesFar().then("55555 * together(0, 1, 0)", "now(3) = 999990", "8 * falls(2, 0)", "now(3) = 999998", "falls(2, 0)",
        "now(3) = 999999", "falls(2, 0)", "now(3) = 999999", "together(0, 1, 0)", "now(3) = 999999", "undo() = 9", "undo() = 8", "undo() = 7",
        "now(3) = 999998");
    Case.told(house).goesFar().then("55555 * together(0, 1, 0)", "together(0, 1, 0)", "now(3) = 999999", "falls(0, 0)", "now(3) = 999999",
        "undo()", "undo()", "now(3) = 999990", "falls(0, 0)", "now(3) = 999999");
    Case.told(house).goesFar().then("55555 * together(0, 1, 0)", "2 * falls(0, 0)", "now(3) = 999999");
  }

  private static void nowAtItsEdges() {
    Case.says("0 the YEAR, 1 what is DUE of all, 2 STAIRS on which nothing is DUE (bits), 3 all HURT, 4 DEAR (NONE), 5 STRUCK. BAD.");
    Case.told(HOUSE).then("now(-1) = BAD", "now(6) = BAD", "now(MIN) = BAD", "now(MAX) = BAD", "now(5) = 0");
    Case.told(SEVEN).then("now(2) = 0", "redeems(6) = 40", "now(2) = 64", "redeems(0) = 40", "now(2) = 65");
    Case.told("s0 1 1 0;s0 1 1 0;s0 1 1 0;s0 1 1 0;s0 1 1 0;s0 1 1 0;s0 1 1 0;").then("now(2) = 127", "ends() = 0", "now(2) = 127");
    Case.told("s0 1 1 1;").then("now(2) = 0", "throwsDoll(0) = 0", "now(2) = 1");
    Case.told("p0 0 0;").then("now(1) = 0", "now(2) = 0", "now(4) = NONE");
    Case.says("DEAR: the STAIR of the greatest PRICE, of several the least; NONE.");
    Case.told("s0 1 1 1;s0 1 1 2;s0 1 1 2;").then("now(4) = 1");
    Case.told("s0 1 1 2;s0 1 1 1;s0 1 1 2;").then("now(4) = 0");
    Case.told(SEVEN).then("now(4) = 0", "redeems(0)", "now(4) = 1");
    Case.told("s0 1 9 1;s0 1 8 1;").then("now(4) = 1");
    // Each price is 0, by less and by more.
    Case.told("s0 1 99 1;s0 1 9 1;s0 1 1 0;").then("now(4) = 0");
    Case.told("s0 1 1 1;s0 1 1 1;s0 1 1 1;s0 1 1 1;s0 1 1 1;s0 1 1 1;s0 1 1 2;").then("now(4) = 6");
  }

  private static void struckRings() {
    Case.says("as long as there is a ring of STAIRS, each of which SOLD to the next one, the last to the first, of two or more");
    Case.told(SEVEN).then("now(5) = 0");
    Case.told(SEVEN).then("sells(0, 1, 3)", "now(5) = 0");
    Case.told(SEVEN).then("sells(0, 1, 3)", "sells(1, 2, 3)", "sells(0, 2, 3)", "now(5) = 0");
    Case.told(SEVEN).then("sells(0, 1, 3)", "sells(1, 0, 1)", "now(5) = 2");
    Case.told(SEVEN).then("sells(5, 6, 3)", "sells(6, 5, 4)", "now(5) = 6");
    Case.told(SEVEN).then("sells(2, 1, 3)", "sells(1, 0, 2)", "sells(0, 2, 4)", "now(5) = 6");
    Case.told(SEVEN).then("sells(0, 1, 1)", "sells(1, 2, 2)", "sells(2, 3, 3)", "sells(3, 4, 4)", "sells(4, 5, 5)", "sells(5, 6, 6)",
        "now(5) = 0", "sells(6, 0, 7)", "now(5) = 7");
    Case.told(SEVEN).then("sells(0, 6, 1)", "sells(6, 5, 1)", "sells(5, 4, 1)", "sells(4, 3, 1)", "sells(3, 2, 1)", "sells(2, 1, 1)",
        "sells(1, 0, 1)", "now(5) = 7");
    Case.told(SEVEN).then("sells(3, 4, 2)", "sells(4, 6, 2)", "sells(6, 5, 2)", "sells(5, 3, 2)", "now(5) = 8");
    Case.told(SEVEN).then("sells(0, 1, 2)", "sells(1, 0, 3)", "sells(2, 3, 1)", "sells(3, 2, 1)", "sells(4, 5, 1)", "sells(5, 6, 1)",
        "sells(6, 4, 1)", "now(5) = 9");
    // Nothing is changed by it, and no bond is of an earlier year.
    Case.told(SEVEN).then("sells(0, 1, 3)", "sells(1, 0, 3)", "now(5) = 6", "now(5) = 6", "bond(0, 1) = 3", "bond(1, 0) = 3", "ends()",
        "now(5) = 0", "sells(1, 0, 1)", "now(5) = 0");
    // All there may be: each of seven sold to each other one.
    Case all = Case.told(SEVEN);
    for (int s = 0; s < 7; s++) {
      for (int t = 0; t < 7; t++) {
        if (s != t) {
          all.then("sells(" + s + ", " + t + ", 1)");
        }
      }
    }
    all.then("now(5) = 42");
  }

  private static Case sold(int... rows) {
    Case x = Case.told(SEVEN);
    for (int i = 0; i + 1 < rows.length; i += 2) {
      x.then("sells(" + rows[i] + ", " + rows[i + 1] + ", 1)");
    }
    return x;
  }

  /** A ring that shares a bond each with two others: struck first it leaves neither, struck later it is gone. */
  private static void struckInOrder() {
    Case.says("the least one (fewest STAIRS, then the row of numbers that begins with the least of them and is least) is less by its least BOND all round");
    Case.told(SEVEN).then("sells(0, 1, 5)", "sells(1, 2, 5)", "sells(2, 0, 5)", "now(5) = 15", "sells(1, 0, 5)", "now(5) = 10");
    Case.told(SEVEN).then("sells(0, 1, 5)", "sells(1, 2, 5)", "sells(2, 0, 5)", "sells(2, 1, 3)", "now(5) = 12");
    // 0 1 2 is first, and leaves nothing for 0 1 3 and 1 2 4.
    sold(0, 1, 1, 2, 2, 0, 1, 3, 3, 0, 2, 4, 4, 1).then("now(5) = 3");
    // 0 1 2 is first, so 0 1 3 is gone and 1 3 4 is left.
    sold(0, 1, 1, 3, 3, 0, 1, 2, 2, 0, 3, 4, 4, 1).then("now(5) = 6");
    // 0 1 3 is first, and leaves nothing for 0 2 3 and 1 3 4.
    sold(0, 1, 1, 3, 3, 0, 0, 2, 2, 3, 3, 4, 4, 1).then("now(5) = 3");
    // 0 1 3 is first, so 0 2 3 is gone and 2 3 4 is left.
    sold(0, 2, 2, 3, 3, 0, 0, 1, 1, 3, 3, 4, 4, 2).then("now(5) = 6");
    // 0 2 3 and 1 3 4 begin with less than 2 3 4.
    sold(2, 3, 3, 4, 4, 2, 3, 0, 0, 2, 4, 1, 1, 3).then("now(5) = 6");
    // 0 3 1 begins with less than 1 2 3, so that one is gone and 1 2 4 is left.
    sold(1, 2, 2, 3, 3, 1, 0, 3, 1, 0, 2, 4, 4, 1).then("now(5) = 6");
    // Four are behind three, though their row is less.
    sold(0, 1, 1, 2, 2, 3, 3, 0, 2, 4, 4, 1).then("now(5) = 3");
    // All bonds of a ring are one less, so what is left of them makes another ring.
    Case.told(SEVEN).then("sells(0, 1, 3)", "sells(1, 0, 1)", "sells(1, 2, 2)", "sells(2, 0, 2)", "now(5) = 8");
    Case.told(SEVEN).then("sells(0, 1, 3)", "sells(1, 0, 2)", "sells(1, 2, 2)", "sells(2, 0, 2)", "now(5) = 7");
  }
}
