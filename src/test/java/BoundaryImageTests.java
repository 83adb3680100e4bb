/** Promises 23 to 27 at their boundaries: kinds, images, counts, the trace, and the last of 512 calls. A case for each. */
public final class BoundaryImageTests {
  private static final String HOUSE = "s0 1 9 5;s1 2 20 0;s0 2 3 11;p0 3 4;p1 8 1;d2;t5;";
  private static final String[] WAY = {"falls(0, 2)", "throwsDoll(0)", "sells(2, 0, 3)", "keep(0)", "ends()", "sells(0, 1, 2)",
      "throwsDoll(1)", "mark(3, 0)", "type(115)"};
  private static final String SEVEN = "s0 1 1 40;s1 2 1 40;s2 3 1 40;s3 4 1 40;s4 5 1 40;s5 6 1 40;s6 0 1 40;";

  public static void main(String[] args) {
    marksThatAreBad();
    marksAtTheirEdges();
    keptThatIsBad();
    backThatIsRefused();
    imagesKeepNow();
    imagesKeepNothingElse();
    imagesKeepWhatMayBeUndone();
    imagesApart();
    imagesThatAreGone();
    counts();
    trace();
    lastCalls();
    Case.end();
  }

  private static void marksThatAreBad() {
    Case.says("MARK. NO: BAD.");
    for (int kind = 0; kind <= 5; kind++) {
      Case.told(HOUSE).then("mark(" + kind + ", -1) = NO", "mark(" + kind + ", 3) = NO", "mark(" + kind + ", 7) = NO", "trace() = 0");
      new Case().then("mark(" + kind + ", 0) = NO", "trace() = 0");
    }
    for (int s = 0; s <= 2; s++) {
      Case.told(HOUSE).then("mark(-1, " + s + ") = NO", "mark(6, " + s + ") = NO", "trace() = 0");
    }
    Case.told(HOUSE).then("mark(MIN, 0) = NO", "mark(MAX, 0) = NO", "mark(0, MIN) = NO", "mark(0, MAX) = NO", "mark(-1, -1) = NO",
        "mark(6, 3) = NO", "trace() = 0");
    Case.leavesAll(HOUSE, WAY, "mark(-1, 0) = NO", "mark(6, 0) = NO", "mark(0, -1) = NO", "mark(5, 3) = NO");
    Case.told(SEVEN).then("mark(0, 6) = 40", "mark(0, 7) = NO");
  }

  private static void marksAtTheirEdges() {
    Case.says("MARK of a STAIR as if of a KIND");
    // Nothing is due, owed, or thrown.
    Case.told("s0 1 1 0;").then("mark(0, 0) = 0", "mark(1, 0) = 1", "mark(2, 0) = 0", "mark(3, 0) = 2", "mark(4, 0) = 0", "mark(5, 0) = 0");
    // As much as may be is due, owed, and thrown.
    Case.told("s0 1 99 40;d9;").then("99 * ends() = 999", "9 * throwsDoll(0) = 990", "mark(0, 0) = 990", "mark(1, 0) = 1089",
        "mark(2, 0) = 981", "mark(3, 0) = 2178", "mark(4, 0) = 1021", "mark(5, 0) = 1089");
    Case.told("s0 1 99 40;").then("99 * ends() = 999", "mark(3, 0) = 2196", "mark(5, 0) = 1098");
    Case.says("What none is, where a number may be below 0.");
    Case.told("s0 1 1 0;d9;").then("9 * throwsDoll(0) = 0", "mark(2, 0) = -9", "mark(4, 0) = -9");
    Case.told("s0 1 1 1;d3;").then("2 * throwsDoll(0) = 0", "mark(2, 0) = -2", "mark(4, 0) = -1", "throwsDoll(0)", "mark(4, 0) = -2");
    Case.told("s0 1 1 0;d1;").then("throwsDoll(0) = 0", "mark(2, 0) = -1", "ends()", "mark(2, 0) = 0");
  }

  private static void keptThatIsBad() {
    Case.says("An IMAGE is kept: the YEAR. BAD.");
    Case.told(HOUSE).then("keep(-1) = BAD", "keep(2) = BAD", "keep(MIN) = BAD", "keep(MAX) = BAD", "back(0) = STATE", "back(1) = STATE");
    Case.leavesAll(HOUSE, WAY, "keep(-1) = BAD", "keep(2) = BAD");
    Case.told(HOUSE).then("keep(0) = 0", "keep(1) = 0", "ends()", "keep(0) = 1", "98 * ends()", "keep(1) = 99", "back(0) = 1", "back(1) = 99");
  }

  private static void backThatIsRefused() {
    Case.says("All of that becomes as an IMAGE has it: the YEAR. BAD; STATE: none was kept.");
    Case.told(HOUSE).then("back(-1) = BAD", "back(2) = BAD", "back(MIN) = BAD", "back(MAX) = BAD");
    Case.told(HOUSE).then("back(0) = STATE", "back(1) = STATE", "keep(0)", "back(1) = STATE", "back(0) = 0");
    Case.told(HOUSE).then("keep(1)", "back(0) = STATE", "back(1) = 0");
    Case.leavesAll(HOUSE, WAY, "back(-1) = BAD", "back(2) = BAD", "back(1) = STATE");
    // Only a number that is none comes ahead of what is not kept.
    Case.told(HOUSE).then("keep(0)", "keep(1)", "back(2) = BAD", "back(-1) = BAD");
  }

  private static void imagesKeepNow() {
    Case.says("IMAGES 0, 1 keep NOW (DUE, DOLLS, BONDS, HURT, the YEAR, what may be UNDONE); nothing else.");
    Case.told(HOUSE).then("keep(0)", "redeems(2)", "stair(2, 4) = 0", "back(0) = 0", "stair(2, 4) = 11");
    Case.told(HOUSE).then("throwsDoll(0)", "keep(0)", "throwsDoll(0)", "back(0) = 0", "stair(0, 5) = 1", "throwsDoll(0) = 3", "throwsDoll(0) = STATE");
    Case.told(HOUSE).then("sells(2, 0, 3)", "keep(1)", "sells(2, 0, 3)", "back(1) = 0", "bond(2, 0) = 3", "ends()", "bond(2, 0) = 0", "back(1) = 0",
        "bond(2, 0) = 3");
    Case.told(HOUSE).then("falls(0, 0)", "keep(0)", "falls(0, 0)", "now(3) = 8", "back(0) = 0", "now(3) = 4");
    Case.told(HOUSE).then("ends()", "keep(0) = 1", "ends()", "back(0) = 1", "now(0) = 1", "now(1) = 32");
    Case.told(HOUSE).then("98 * ends()", "keep(0) = 98", "ends()", "ends() = STATE", "back(0) = 98", "ends() = 1499", "ends() = STATE");
    // The last stair, and the bonds of the last ones.
    Case.told(SEVEN).then("sells(6, 5, 1)", "throwsDoll(6) = 38", "keep(0)", "ends()", "redeems(6)", "back(0)", "stair(6, 4) = 38",
        "stair(6, 5) = 1", "bond(6, 5) = 1");
  }

  private static void imagesKeepNothingElse() {
    Case.says("IMAGES 0, 1 keep NOW (DUE, DOLLS, BONDS, HURT, the YEAR, what may be UNDONE); nothing else.");
    Case.told(HOUSE).then("keep(0)", "type(64) = 1", "back(0) = 0", "count(5) = 1");
    Case.told(HOUSE).then("type(64) = 1", "keep(0)", "clear() = 1", "back(0) = 0", "count(5) = 0");
    Case.told(HOUSE).then("mark(5, 0)", "keep(0)", "mark(5, 0)", "back(0) = 0", "trace() = 200002");
    // One image does not keep the other one.
    Case.told(HOUSE).then("keep(0)", "ends()", "keep(1) = 1", "back(0) = 0", "back(1) = 1", "ends()", "keep(0) = 2", "back(1) = 1", "back(0) = 2");
  }

  private static void imagesKeepWhatMayBeUndone() {
    Case.says("IMAGES 0, 1 keep NOW (DUE, DOLLS, BONDS, HURT, the YEAR, what may be UNDONE); nothing else.");
    Case.told(HOUSE).then("keep(0)", "falls(0, 0)", "back(0)", "count(4) = 0", "undo() = STATE");
    Case.told(HOUSE).then("falls(0, 0)", "keep(0)", "undo() = 0", "back(0)", "count(4) = 1", "undo() = 0", "stair(0, 4) = 5", "undo() = STATE");
    Case.told("s0 1 1 40;p1 0 0;").then("12 * falls(0, 0)", "keep(0)", "10 * undo() = 0", "5 * falls(0, 0) = 33", "back(0)", "count(4) = 10",
        "stair(0, 4) = 28", "10 * undo() = 0", "stair(0, 4) = 38", "undo() = STATE", "back(0)", "undo() = 9", "stair(0, 4) = 29");
    Case.told("s0 1 1 40;p1 0 0;").then("3 * falls(0, 0)", "keep(1)", "20 * falls(0, 0) = 17", "back(1)", "count(4) = 3", "2 * undo() = 1",
        "undo() = 0", "stair(0, 4) = 40");
    // To go back is not done in the house, so it is not undone.
    Case.told(HOUSE).then("keep(0)", "falls(0, 0)", "keep(1)", "back(0) = 0", "undo() = STATE", "back(1) = 0", "undo() = 0", "now(3) = 0");
    Case.told(HOUSE).then("falls(0, 0)", "keep(0)", "keep(0)", "count(4) = 1");
  }

  private static void imagesApart() {
    Case.says("All of that becomes as an IMAGE has it: the YEAR. BAD; STATE: none was kept.");
    // An image stays as it was kept, whatever is done after going back to it, and may be gone back to often.
    Case.told(HOUSE).then("keep(0)", "back(0) = 0", "falls(0, 0)", "ends()", "redeems(0)", "back(0) = 0", "stair(0, 4) = 5", "now(3) = 0", "now(0) = 0",
        "count(4) = 0");
    Case.told(HOUSE).then("falls(0, 0)", "keep(0)", "back(0)", "undo() = 0", "redeems(2)", "redeems(0)", "back(0)", "undo() = 0", "stair(0, 4) = 5",
        "stair(2, 4) = 11");
    Case.told(HOUSE).then("keep(0)", "back(0)", "back(0)", "back(0) = 0", "now(1) = 16");
    // Kept anew, the one ahead of it is gone.
    Case.told(HOUSE).then("keep(0)", "redeems(2)", "keep(0)", "ends()", "back(0) = 0", "stair(2, 4) = 0", "now(1) = 5");
  }

  private static void imagesThatAreGone() {
    Case.says("(Read anew: as told, no BONDS, nothing to be UNDONE, IMAGES are gone.)");
    Case.told("s0 1 1 5;").then("keep(0)", "keep(1)").types("s0 1 1 6;").then("house() = 1", "back(0) = STATE", "back(1) = STATE", "stair(0, 4) = 6");
    Case.told("s0 1 1 5;").then("keep(0)", "house() = 0", "back(0) = STATE", "keep(0) = 0", "back(0) = 0", "count(0) = 0");
    Case.told("s0 1 1 5;").then("keep(0)", "redeems(0)").types("x").then("house() = -10", "back(0) = 0", "stair(0, 4) = 5");
    Case.told("s0 1 1 5;").then("ends()").types("s0 1 1 6;").then("house() = 1", "keep(1) = 0", "ends()", "back(1) = 0", "stair(0, 4) = 6");
  }

  private static void counts() {
    Case.says("0 STAIRS, 1 PEOPLE, 2 DOLLS, 3 PAIR, 4 how many may be UNDONE, 5 bytes of THE TEXT. BAD.");
    Case.told(HOUSE).then("count(-1) = BAD", "count(6) = BAD", "count(MIN) = BAD", "count(MAX) = BAD");
    new Case().then("count(-1) = BAD", "count(6) = BAD", "count(0) = 0", "count(5) = 0");
    Case.told(SEVEN + "p0 0 0;p0 0 0;p0 0 0;p0 0 0;p0 0 0;d9;t9;").then("20 * ends()", "200 * type(0)", "count(0) = 7", "count(1) = 5", "count(2) = 9",
        "count(3) = 9", "count(4) = 10", "count(5) = 200");
    Case.told("d0;t0;").then("count(0) = 0", "count(1) = 0", "count(2) = 0", "count(3) = 0", "count(4) = 0", "count(5) = 0");
    // DOLLS are those that may be thrown in a year, not those that are left.
    Case.told("s0 1 1 9;d2;").then("2 * throwsDoll(0)", "count(2) = 2");
  }

  private static void trace() {
    Case.says("(numbers in brackets come to THE TRACE as often as mark() asks that body");
    int[] sums = {1, 11, 101, 1011, 10101, 100001};
    for (int kind = 0; kind < sums.length; kind++) {
      Case.told(HOUSE).then("trace() = 0", "mark(" + kind + ", 0)", "trace() = " + sums[kind], "mark(" + kind + ", 2)", "trace() = " + 2 * sums[kind]);
    }
    // Only mark() asks, and only where it answers.
    Case.told(HOUSE).then("stair(0, 4)", "stair(0, 6)", "now(1)", "now(4)", "surest(0, 2, 0)", "trace()", "trace() = 0");
    Case.told(HOUSE).then("mark(5, 3) = NO", "mark(6, 0) = NO", "trace() = 0");
    // It goes on through all that is done and taken back.
    Case.told(HOUSE).then("keep(0)", "falls(0, 0)", "mark(1, 0)", "undo()", "trace() = 11", "back(0)", "trace() = 11", "house() = 0", "trace() = 11");
    Case.told(HOUSE).then("450 * mark(5, 0)", "trace() = 45000450");
  }

  private static void lastCalls() {
    Case.says("An object is used for at most 512 calls after it has been made; what later calls answer is free.");
    new Case().then("511 * type(-1) = BAD", "type(0) = 1");
    new Case().then("508 * clear()").types("d7;").then("house() = 1");
    new Case().then("200 * type(64)", "200 * type(64) = FULL", "111 * house() = -10", "clear() = 200");
    // The house takes 49 bytes and the call that reads them.
    Case.told(HOUSE).then("460 * falls(0, 0)", "now(3) = 1840", "undo() = 9");
    Case.told(HOUSE).then("230 * falls(0, 0)", "230 * undo() = STATE", "now(3) = 880", "now(3) = 880");
    Case.told(HOUSE).then("231 * keep(0) = 0", "231 * back(0) = 0");
    Case.told(HOUSE).then("99 * ends()", "362 * ends() = STATE", "now(0) = 99");
  }
}
