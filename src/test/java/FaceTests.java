import java.lang.management.ManagementFactory;
import java.lang.reflect.Constructor;
import java.lang.reflect.Field;
import java.lang.reflect.Method;
import java.lang.reflect.Modifier;
import java.util.Arrays;
import java.util.Set;
import java.util.TreeSet;

/** The class's face, wild arguments, and the room that calls take. */
public final class FaceTests {
  private static final Set<String> FACE = new TreeSet<>(Arrays.asList(
      "int type(int)", "int clear()", "int house()", "int stair(int,int)", "int person(int,int)", "int bond(int,int)",
      "int falls(int,int)", "int together(int,int,int)", "int throwsDoll(int)", "int sells(int,int,int)",
      "int redeems(int)", "int ends()", "int undo()", "int now(int)", "int surest(int,int,int)", "int bars(int,int)",
      "int paid(int,int)", "int coins(int,int)", "int free(int,int)", "int who(int,int,int,int)", "int odds(int,int)",
      "int mark(int,int)", "int keep(int)", "int back(int)", "int count(int)", "long trace()"));
  private static int wrong = 0;

  public static void main(String[] args) throws Exception {
    faceIsAsTold();
    wildArgumentsAreAnswered();
    callsTakeNoRoom();
    System.out.println(wrong == 0 ? "the face is as told" : wrong + " things are not as told");
    if (wrong != 0) {
      System.exit(1);
    }
  }

  private static void check(boolean holds, String what) {
    if (!holds) {
      wrong++;
      System.out.println("not so: " + what);
    }
  }

  private static String signature(Method m) {
    StringBuilder b = new StringBuilder(m.getReturnType() + " " + m.getName() + "(");
    for (int i = 0; i < m.getParameterCount(); i++) {
      b.append(i == 0 ? "" : ",").append(m.getParameterTypes()[i]);
    }
    return b.append(')').toString();
  }

  private static void faceIsAsTold() {
    Class<?> c = OwedFalls.class;
    check(c.getModifiers() == (Modifier.PUBLIC | Modifier.FINAL), "public final class");
    Set<String> open = new TreeSet<>();
    Set<String> names = new TreeSet<>();
    for (Method m : c.getDeclaredMethods()) {
      if (!Modifier.isPrivate(m.getModifiers())) {
        open.add(signature(m));
        names.add(m.getName());
        check(m.getModifiers() == Modifier.PUBLIC, m.getName() + " is public, and nothing else");
      }
    }
    check(open.equals(FACE), "the methods are those of the document: " + open);
    Constructor<?>[] made = c.getDeclaredConstructors();
    check(made.length == 1 && made[0].getParameterCount() == 0 && Modifier.isPublic(made[0].getModifiers()), "one constructor");
    Set<String> constants = new TreeSet<>();
    for (Field f : c.getDeclaredFields()) {
      if (!Modifier.isPrivate(f.getModifiers())) {
        constants.add(f.getName());
        check(f.getModifiers() == (Modifier.PUBLIC | Modifier.STATIC | Modifier.FINAL), f.getName() + " is a constant");
      }
      check(!Modifier.isStatic(f.getModifiers()) || Modifier.isFinal(f.getModifiers()), f.getName() + " is final");
    }
    check(constants.equals(new TreeSet<>(Arrays.asList("BAD", "STATE", "FULL", "NONE", "NO"))), "the constants: " + constants);
    innerClassesAreAsTold(c, names);
  }

  private static void innerClassesAreAsTold(Class<?> c, Set<String> names) {
    for (Class<?> inner : c.getDeclaredClasses()) {
      int m = inner.getModifiers();
      check(Modifier.isStatic(m) && !Modifier.isPublic(m) && !Modifier.isProtected(m), inner + " is static, and not open");
      for (Method method : inner.getDeclaredMethods()) {
        check(!names.contains(method.getName()), inner + "." + method.getName() + " has a name of its own");
      }
    }
    for (Method method : c.getDeclaredMethods()) {
      check(!Modifier.isPrivate(method.getModifiers()) || !names.contains(method.getName()), method + " has a name of its own");
    }
  }

  private static void write(OwedFalls x, String text) {
    for (int i = 0; i < text.length(); i++) {
      x.type(text.charAt(i));
    }
  }

  private static OwedFalls told(String text) {
    OwedFalls x = new OwedFalls();
    write(x, text);
    check(x.house() >= 0, "a house is told by " + text);
    return x;
  }

  /** Every call with every mix of odd arguments, on a new object, on one with a house, on one with all it may have. */
  private static void wildArgumentsAreAnswered() throws Exception {
    int[] wild = {Integer.MIN_VALUE, -1000000, -2, -1, 0, 1, 4, 6, 7, 99, 100, 256, Integer.MAX_VALUE};
    String most = "s0 1 99 40;s1 2 99 40;s2 3 99 40;s3 4 99 40;s4 5 99 40;s5 6 99 40;s6 0 99 40;"
        + "p1 0 9;p1 0 9;p1 0 9;p1 0 9;p1 0 9;d9;t9;";
    for (String text : new String[] {"", "s0 1 9 5;p0 3 4;d0;t0;", most}) {
      for (Method m : OwedFalls.class.getDeclaredMethods()) {
        if (Modifier.isPublic(m.getModifiers())) {
          callWildly(told(text), m, new Object[m.getParameterCount()], 0, wild);
        }
      }
    }
    OwedFalls x = told(most);
    int[] far = {Integer.MIN_VALUE, -3, 7, Integer.MAX_VALUE};
    for (int n : far) {
      check(x.stair(n, 0) == OwedFalls.BAD && x.person(n, 0) == OwedFalls.BAD && x.bond(n, 0) == OwedFalls.BAD, "BAD: " + n);
      check(x.falls(0, n) == OwedFalls.BAD && x.throwsDoll(n) == OwedFalls.BAD && x.redeems(n) == OwedFalls.BAD, "BAD: " + n);
      check(x.sells(n, 0, 1) == OwedFalls.BAD && x.together(n, 0, 0) == OwedFalls.BAD, "BAD: " + n);
      check(x.surest(n, 0, 0) == OwedFalls.BAD && x.bars(0, n) == OwedFalls.BAD && x.paid(n, 0) == OwedFalls.BAD, "BAD: " + n);
      check(x.coins(1, n) == OwedFalls.BAD && x.free(n, 1) == OwedFalls.BAD && x.who(n, 0, 0, 0) == OwedFalls.BAD, "BAD: " + n);
      check(x.mark(n, 0) == OwedFalls.NO && x.keep(n) == OwedFalls.BAD && x.back(n) == OwedFalls.BAD, "BAD: " + n);
      check(x.count(n) == OwedFalls.BAD && x.now(n) == OwedFalls.BAD && x.odds(0, n) == OwedFalls.BAD, "BAD: " + n);
    }
  }

  private static void callWildly(OwedFalls x, Method m, Object[] args, int at, int[] wild) throws Exception {
    if (at == args.length) {
      try {
        m.invoke(x, args);
      } catch (java.lang.reflect.InvocationTargetException e) {
        check(false, m.getName() + Arrays.toString(args) + " threw " + e.getCause());
      }
      return;
    }
    for (int n : wild) {
      args[at] = n;
      callWildly(x, m, args, at + 1, wild);
    }
  }

  private static long allCalls(OwedFalls x) {
    long sum = 0;
    for (int i = 0; i < 40; i++) {
      int s = i % 7;
      int t = (s + 1) % 7;
      // A text with a fault, so that the house stays.
      sum += x.type(64) + x.house() + x.clear() + x.stair(s, 6) + x.person(1, 1) + x.bond(s, t);
      sum += x.falls(0, s) + x.together(0, 1, s) + x.throwsDoll(s) + x.sells(s, t, 1) + x.redeems(s) + x.ends() + x.undo();
      sum += x.now(i % 6) + x.surest(0, s, 2) + x.bars(0, s) + x.paid(s, 0) + x.coins(99, s) + x.free(s, 9);
      sum += x.who(6, 9, 9, 0) + x.odds(3, 0) + x.mark(3, s) + x.keep(i % 2) + x.back(i % 2) + x.count(4) + x.trace();
    }
    return sum;
  }

  /** Calls make no objects, so that all calls of a run fit into its room; only a new object takes some. */
  private static void callsTakeNoRoom() {
    com.sun.management.ThreadMXBean bean = (com.sun.management.ThreadMXBean) ManagementFactory.getThreadMXBean();
    OwedFalls x = told("s0 1 9 40;s1 2 9 40;s2 3 9 40;s3 4 9 40;s4 5 9 40;s5 6 9 40;s6 0 9 40;p0 3 4;p1 3 3;");
    long sum = allCalls(x) + bean.getCurrentThreadAllocatedBytes();
    long before = bean.getCurrentThreadAllocatedBytes();
    sum += allCalls(x);
    long between = bean.getCurrentThreadAllocatedBytes();
    OwedFalls other = new OwedFalls();
    long after = bean.getCurrentThreadAllocatedBytes();
    check(between - before < 2000, "1000 calls take no room, but took " + (between - before) + " bytes");
    check(after - between < 60000, "a new object takes little room, but took " + (after - between) + " bytes");
    check(other.count(0) == 0 && sum != 0, "the calls were made");
  }
}
