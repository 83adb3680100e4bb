import java.io.IOException;
import java.lang.reflect.InvocationTargetException;
import java.lang.reflect.Method;
import java.lang.reflect.Modifier;
import java.nio.file.Files;
import java.nio.file.Path;
import java.util.ArrayList;
import java.util.HashMap;
import java.util.List;
import java.util.Map;
import java.util.regex.Matcher;
import java.util.regex.Pattern;

/**
 * A run of calls on a new object, told by texts: "falls(0, 2) = 9" looks at the answer, "30 * ends()" calls often.
 * Each case belongs to the sentence of the document that was named last.
 */
final class Case {
  private static final Pattern CALL = Pattern.compile("(?:(\\d+) \\* )?(\\w+)\\(([^)]*)\\)(?: = (-?\\w+))?");
  private static final Map<String, Method> METHODS = methods();
  private static final int MOST_CALLS = 512;
  private static String document = null;
  private static String sentence = "";
  private static int sentences = 0;
  private static int cases = 0;
  private static int casesAhead = 0;
  private static int wrong = 0;

  private final OwedFalls x = new OwedFalls();
  private int calls = 0;
  private boolean isFree = false;

  Case() {
    cases++;
  }

  /** The words that the cases behind it are about; they have to stand in the document. */
  static void says(String words) {
    lookForACase();
    sentences++;
    sentence = words;
    casesAhead = cases;
    if (!document().contains(words)) {
      fail("these words don't stand in the document");
    }
  }

  private static void lookForACase() {
    if (sentences > 0 && cases == casesAhead) {
      fail("no case is about these words");
    }
  }

  private static String document() {
    if (document == null) {
      try {
        document = Files.readString(Path.of("../shared/DOC.md")).replaceAll("\\s+", " ");
      } catch (IOException e) {
        document = "";
      }
    }
    return document;
  }

  static void fail(String what) {
    wrong++;
    System.out.println("\"" + sentence + "\": " + what);
  }

  static void end() {
    lookForACase();
    String told = sentences + " sentences, " + cases + " cases";
    System.out.println(wrong == 0 ? told + ": all hold" : told + ": " + wrong + " answers are not as due");
    if (wrong != 0) {
      System.exit(1);
    }
  }

  /** A new object to which a text has told the house. */
  static Case told(String text) {
    Case c = new Case().types(text);
    if (c.call("house()") < 0) {
      fail("no house is told by " + text);
    }
    return c;
  }

  static void fault(int place, String text) {
    new Case().types(text).then("house() = " + (-10 - place), "count(5) = " + text.length());
  }

  static void items(int number, String text) {
    new Case().types(text).then("house() = " + number, "count(5) = 0");
  }

  Case types(String text) {
    for (int i = 0; i < text.length(); i++) {
      calls++;
      x.type(text.charAt(i));
    }
    return this;
  }

  /** What is called after the 512th call is free; only a sentence that no shorter run can show goes so far. */
  Case goesFar() {
    isFree = true;
    return this;
  }

  Case then(String... rows) {
    for (String row : rows) {
      call(row);
    }
    return this;
  }

  private long call(String row) {
    Matcher m = CALL.matcher(row);
    if (!m.matches()) {
      fail("no call: " + row);
      return 0;
    }
    int times = m.group(1) == null ? 1 : Integer.parseInt(m.group(1));
    Object[] args = numbers(m.group(3));
    long got = 0;
    for (int i = 0; i < times; i++) {
      got = answer(m.group(2), args);
    }
    if (m.group(4) != null && got != number(m.group(4))) {
      fail(row + ", but answered " + got);
    }
    return got;
  }

  private long answer(String name, Object[] args) {
    calls++;
    if (calls > MOST_CALLS && !isFree) {
      fail("more than 512 calls");
    }
    Method method = METHODS.get(name);
    if (method == null || method.getParameterCount() != args.length) {
      fail("no such call: " + name);
      return 0;
    }
    try {
      return ((Number) method.invoke(x, args)).longValue();
    } catch (InvocationTargetException | IllegalAccessException e) {
      fail(name + " threw " + e.getCause());
      return 0;
    }
  }

  private static Map<String, Method> methods() {
    Map<String, Method> all = new HashMap<>();
    for (Method m : OwedFalls.class.getDeclaredMethods()) {
      if (Modifier.isPublic(m.getModifiers())) {
        all.put(m.getName(), m);
      }
    }
    return all;
  }

  private static Object[] numbers(String told) {
    List<Object> all = new ArrayList<>();
    for (String part : told.trim().split(" *, *")) {
      if (!part.isEmpty()) {
        all.add((int) number(part));
      }
    }
    return all.toArray();
  }

  private static long number(String told) {
    switch (told) {
      case "BAD": return -1;
      case "STATE": return -2;
      case "FULL": return -3;
      case "NONE": return -9;
      case "NO": return -1000000;
      case "MIN": return Integer.MIN_VALUE;
      case "MAX": return Integer.MAX_VALUE;
      default: return Long.parseLong(told);
    }
  }

  /** Two objects go the same way, one of them with some calls more, which must leave no trace. */
  static void leavesAll(String house, String[] way, String... more) {
    Case plain = told(house).then(way);
    Case other = told(house).then(way).then(more);
    List<String> all = plain.everything();
    List<String> same = other.everything();
    for (int i = 0; i < all.size() && i < same.size(); i++) {
      if (!all.get(i).equals(same.get(i))) {
        fail(all.get(i) + " became " + same.get(i) + " by " + String.join(" ", more));
        return;
      }
    }
    if (all.size() != same.size()) {
      fail("other things may be undone after " + String.join(" ", more));
    }
  }

  /** All that can be told of an object: as it is, as it is after each undo(), in both images, and by its text. */
  private List<String> everything() {
    List<String> all = new ArrayList<>();
    note(all, "trace()");
    noteAll(all, "count", 5);
    noteAll(all, "now", 5);
    int stairs = (int) call("count(0)");
    for (int s = 0; s < stairs; s++) {
      noteAll(all, "stair", s, 6);
      noteAll(all, "bond", s, stairs - 1);
    }
    int people = (int) call("count(1)");
    for (int p = 0; p < people; p++) {
      noteAll(all, "person", p, 2);
    }
    int undoable = (int) call("count(4)");
    for (int i = 0; i <= undoable; i++) {
      note(all, "undo()");
      noteState(all, stairs);
    }
    for (int image = 0; image < 2; image++) {
      note(all, "back(" + image + ")");
      note(all, "count(4)");
      noteState(all, stairs);
    }
    note(all, "house()");
    noteAll(all, "count", 5);
    return all;
  }

  private void note(List<String> all, String call) {
    all.add(call + " = " + call(call));
  }

  private void noteAll(List<String> all, String name, int most) {
    for (int i = 0; i <= most; i++) {
      note(all, name + "(" + i + ")");
    }
  }

  private void noteAll(List<String> all, String name, int first, int most) {
    for (int i = 0; i <= most; i++) {
      note(all, name + "(" + first + ", " + i + ")");
    }
  }

  private void noteState(List<String> all, int stairs) {
    note(all, "now(0)");
    note(all, "now(3)");
    note(all, "now(5)");
    for (int s = 0; s < stairs; s++) {
      note(all, "stair(" + s + ", 4)");
      note(all, "stair(" + s + ", 5)");
    }
  }
}
