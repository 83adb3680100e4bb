import java.math.BigInteger;
import java.util.ArrayList;
import java.util.Arrays;
import java.util.List;
import java.util.Random;
import java.util.regex.Matcher;
import java.util.regex.Pattern;

/**
 * Random runs of calls (always the same ones) on the class and on a model beside it, which answers by trying
 * out what the document's words say, by other ways than the class takes.
 */
public final class ModelTests {
  private static final int BAD = -1, STATE = -2, FULL = -3, NONE = -9, NO = -1000000;
  private static final int RUNS = 1500;
  private static int wrong = 0;

  public static void main(String[] args) {
    for (int run = 0; run < RUNS && wrong < 20; run++) {
      new Run(run).go();
    }
    System.out.println(wrong == 0 ? RUNS + " runs are as the model has them" : wrong + " runs are not as the model has them");
    if (wrong != 0) {
      System.exit(1);
    }
  }

  /** One object and its model, driven by the same calls till they differ. */
  private static final class Run {
    final int number;
    final Random random;
    final OwedFalls x = new OwedFalls();
    final Model m = new Model();
    final StringBuilder log = new StringBuilder();
    int calls = 0;
    boolean same = true;

    Run(int number) {
      this.number = number;
      this.random = new Random(7919L * number + 11);
    }

    void go() {
      write(number % 4 == 3 ? spoiled(text()) : text());
      while (same && calls < 505) {
        step();
      }
      if (!same) {
        wrong++;
        String told = log.toString();
        System.out.println("run " + number + ": .." + told.substring(Math.max(0, told.length() - 900)));
      }
    }

    void expect(String call, long got, long want) {
      calls++;
      log.append(' ').append(call).append('=').append(got);
      if (got != want) {
        same = false;
        log.append(" (due is ").append(want).append(')');
      }
    }

    void write(String text) {
      expect("clear()", x.clear(), m.clear());
      for (int i = 0; i < text.length() && same; i++) {
        int c = text.charAt(i);
        expect("type(" + c + ")", x.type(c), m.type(c));
      }
      expect("house()", x.house(), m.house());
    }

    int upTo(int most) {
      return random.nextInt(most + 1);
    }

    /** Mostly a number that may be, at times one just beside. */
    int near(int least, int most) {
      return random.nextInt(25) == 0 ? (random.nextBoolean() ? least - 1 : most + 1) : least + upTo(Math.max(0, most - least));
    }

    String text() {
      List<String> items = new ArrayList<>();
      int floors = 2 + upTo(4);
      int owes = new int[] {3, 12, 40}[upTo(2)];
      int steps = random.nextBoolean() ? 3 : 99;
      for (int i = upTo(7); i > 0; i--) {
        int a = upTo(floors);
        int b = (a + 1 + upTo(floors - 1)) % (floors + 1);
        items.add("s" + a + " " + b + " " + (1 + upTo(steps - 1)) + " " + upTo(owes) + ";");
      }
      int hurt = random.nextBoolean() ? 2 : 9;
      for (int i = upTo(5); i > 0; i--) {
        items.add("p" + upTo(1) + " " + upTo(10) + " " + upTo(hurt) + ";");
      }
      if (random.nextBoolean()) {
        items.add("d" + upTo(9) + ";");
      }
      if (random.nextBoolean()) {
        items.add("t" + upTo(9) + ";");
      }
      java.util.Collections.shuffle(items, random);
      return String.join(random.nextInt(4) == 0 ? " " : "", items);
    }

    String spoiled(String text) {
      StringBuilder b = new StringBuilder(text);
      String signs = "spdtx0123456789;; \t@`{/:A";
      for (int i = 1 + upTo(2); i > 0; i--) {
        char c = signs.charAt(upTo(signs.length() - 1));
        int at = upTo(b.length());
        int how = upTo(3);
        if (how == 0) {
          b.insert(at, c);
        } else if (how == 1 && at < b.length()) {
          b.setCharAt(at, c);
        } else if (how == 2 && at < b.length()) {
          b.deleteCharAt(at);
        } else if (how == 3 && random.nextInt(4) == 0) {
          b.setLength(at);
        }
      }
      return b.toString();
    }

    void step() {
      int stairs = m.stairs.size() - 1;
      int people = m.people.size() - 1;
      int s = near(0, stairs);
      int t = near(0, stairs);
      int p = near(0, people);
      int q = near(0, people);
      int dice = random.nextInt(100);
      if (dice < 40) {
        act(dice, s, t, p, q);
      } else if (dice < 43) {
        int image = near(0, 1);
        expect("keep(" + image + ")", x.keep(image), m.keep(image));
      } else if (dice < 46) {
        int image = near(0, 1);
        expect("back(" + image + ")", x.back(image), m.back(image));
      } else if (dice == 46 && calls < 300 && random.nextInt(6) == 0) {
        write(random.nextInt(3) == 0 ? spoiled(text()) : text());
      } else if (dice < 49) {
        int c = random.nextInt(8) == 0 ? near(0, 255) : "s0 1;p".charAt(upTo(5));
        expect("type(" + c + ")", x.type(c), m.type(c));
      } else if (dice < 50) {
        expect("house()", x.house(), m.house());
      } else if (dice < 75) {
        look(s, t, p);
      } else {
        ask(s);
      }
    }

    void act(int dice, int s, int t, int p, int q) {
      if (dice < 6) {
        expect("falls(" + p + ", " + s + ")", x.falls(p, s), m.falls(p, s));
      } else if (dice < 11) {
        expect("together(" + p + ", " + q + ", " + s + ")", x.together(p, q, s), m.together(p, q, s));
      } else if (dice < 17) {
        expect("throwsDoll(" + s + ")", x.throwsDoll(s), m.throwsDoll(s));
      } else if (dice < 27) {
        int n = random.nextInt(12) == 0 ? near(1, 99) : 1 + upTo(9);
        expect("sells(" + s + ", " + t + ", " + n + ")", x.sells(s, t, n), m.sells(s, t, n));
      } else if (dice < 29) {
        expect("redeems(" + s + ")", x.redeems(s), m.redeems(s));
      } else if (dice < (number % 5 == 0 ? 36 : 30)) {
        expect("ends()", x.ends(), m.ends());
      } else {
        expect("undo()", x.undo(), m.undo());
      }
    }

    void look(int s, int t, int p) {
      int how = random.nextInt(7);
      int what = near(0, 6);
      if (how == 0) {
        expect("stair(" + s + ", " + what + ")", x.stair(s, what), m.stair(s, what));
      } else if (how == 1) {
        what = near(0, 2);
        expect("person(" + p + ", " + what + ")", x.person(p, what), m.person(p, what));
      } else if (how == 2) {
        expect("bond(" + s + ", " + t + ")", x.bond(s, t), m.bond(s, t));
      } else if (how == 3) {
        what = near(0, 5);
        expect("count(" + what + ")", x.count(what), m.count(what));
      } else if (how == 4) {
        what = near(0, 5);
        expect("mark(" + what + ", " + s + ")", x.mark(what, s), m.mark(what, s));
        expect("trace()", x.trace(), m.trace);
      } else {
        what = random.nextInt(3) == 0 ? 5 : near(0, 5);
        expect("now(" + what + ")", x.now(what), m.now(what));
      }
    }

    void ask(int s) {
      int how = random.nextInt(7);
      int what = near(0, 2);
      int from = near(0, 6);
      int to = near(0, 6);
      int n = random.nextBoolean() ? near(0, 99) : upTo(20);
      if (how == 0) {
        expect("surest(" + from + ", " + to + ", " + what + ")", x.surest(from, to, what), m.surest(from, to, what));
      } else if (how == 1) {
        expect("bars(" + from + ", " + to + ")", x.bars(from, to), m.bars(from, to));
      } else if (how == 2) {
        what = near(0, 1);
        expect("paid(" + s + ", " + what + ")", x.paid(s, what), m.paid(s, what));
      } else if (how == 3) {
        int of = random.nextBoolean() ? s : near(-2, -1);
        expect("coins(" + n + ", " + of + ")", x.coins(n, of), m.coins(n, of));
      } else if (how == 4) {
        expect("free(" + s + ", " + n + ")", x.free(s, n), m.free(s, n));
      } else if (how == 5) {
        askWho(what);
      } else {
        what = near(0, 1);
        int d = random.nextInt(6) == 0 ? n : upTo(11);
        expect("odds(" + d + ", " + what + ")", x.odds(d, what), m.odds(d, what));
      }
    }

    void askWho(int what) {
      int k = near(0, 6);
      int d = random.nextInt(20) == 0 ? near(0, 99) : upTo(12);
      int h = random.nextInt(20) == 0 ? near(0, 99) : upTo(12);
      expect("who(" + k + ", " + d + ", " + h + ", " + what + ")", x.who(k, d, h, what), m.who(k, d, h, what));
    }
  }

  /** What is done, as a value that is copied whole. */
  private static final class State {
    int[] due = new int[0];
    int[] thrown = new int[0];
    int[][] bonds = new int[0][0];
    int hurt;
    int year;

    State copy() {
      State c = new State();
      c.due = due.clone();
      c.thrown = thrown.clone();
      c.bonds = new int[bonds.length][];
      for (int i = 0; i < bonds.length; i++) {
        c.bonds[i] = bonds[i].clone();
      }
      c.hurt = hurt;
      c.year = year;
      return c;
    }
  }

  private static final class Model {
    static final Pattern TOKEN = Pattern.compile("[a-z]+|[0-9]+|[^ ]", Pattern.DOTALL);
    String text = "";
    List<int[]> stairs = new ArrayList<>();
    List<int[]> people = new ArrayList<>();
    int dolls = 3;
    int pair = 3;
    State now = new State();
    List<State> past = new ArrayList<>();
    State[] imageNow = new State[2];
    List<List<State>> imagePast = new ArrayList<>(Arrays.asList(null, null));
    long trace = 0;

    int type(int c) {
      if (c < 0 || c > 255) {
        return BAD;
      }
      if (text.length() == 200) {
        return FULL;
      }
      text += (char) c;
      return text.length();
    }

    int clear() {
      int had = text.length();
      text = "";
      return had;
    }

    int house() {
      List<int[]> toldStairs = new ArrayList<>();
      List<int[]> toldPeople = new ArrayList<>();
      int toldDolls = -1;
      int toldPair = -1;
      int items = 0;
      char item = 0;
      List<Integer> numbers = new ArrayList<>();
      Matcher matcher = TOKEN.matcher(text);
      while (matcher.find()) {
        String token = matcher.group();
        int fault = -10 - matcher.start();
        if (item == 0) {
          boolean fits = token.equals("s") && toldStairs.size() < 7 || token.equals("p") && toldPeople.size() < 5
              || token.equals("d") && toldDolls < 0 || token.equals("t") && toldPair < 0;
          if (!fits) {
            return fault;
          }
          item = token.charAt(0);
          numbers.clear();
        } else if (numbers.size() < limits(item).length) {
          int[] limit = limits(item)[numbers.size()];
          if (!token.matches("0|[1-9][0-9]?")) {
            return fault;
          }
          int value = Integer.parseInt(token);
          if (value < limit[0] || value > limit[1] || item == 's' && numbers.size() == 1 && value == numbers.get(0)) {
            return fault;
          }
          numbers.add(value);
        } else {
          if (!token.equals(";")) {
            return fault;
          }
          int[] row = numbers.stream().mapToInt(Integer::intValue).toArray();
          if (item == 's') {
            toldStairs.add(row);
          } else if (item == 'p') {
            toldPeople.add(row);
          } else if (item == 'd') {
            toldDolls = row[0];
          } else {
            toldPair = row[0];
          }
          items++;
          item = 0;
        }
      }
      if (item != 0) {
        return -10 - text.length();
      }
      text = "";
      stairs = toldStairs;
      people = toldPeople;
      dolls = toldDolls < 0 ? 3 : toldDolls;
      pair = toldPair < 0 ? 3 : toldPair;
      begin();
      return items;
    }

    static int[][] limits(char item) {
      switch (item) {
        case 's': return new int[][] {{0, 6}, {0, 6}, {1, 99}, {0, 40}};
        case 'p': return new int[][] {{0, 1}, {0, 10}, {0, 9}};
        default: return new int[][] {{0, 9}};
      }
    }

    void begin() {
      now = new State();
      now.due = stairs.stream().mapToInt(row -> row[3]).toArray();
      now.thrown = new int[stairs.size()];
      now.bonds = new int[stairs.size()][stairs.size()];
      past = new ArrayList<>();
      imageNow = new State[2];
    }

    boolean noStair(int s) {
      return s < 0 || s >= stairs.size();
    }

    boolean noPerson(int p) {
      return p < 0 || p >= people.size();
    }

    int halves(int p) {
      return 2 - people.get(p)[0];
    }

    int price(int s) {
      return Math.max(0, 9 * now.due[s] - stairs.get(s)[2]);
    }

    int stair(int s, int what) {
      if (noStair(s) || what < 0 || what > 6) {
        return BAD;
      }
      return what < 4 ? stairs.get(s)[what] : what == 4 ? now.due[s] : what == 5 ? now.thrown[s] : price(s);
    }

    int person(int p, int what) {
      return noPerson(p) || what < 0 || what > 2 ? BAD : people.get(p)[what];
    }

    int bond(int s, int t) {
      return noStair(s) || noStair(t) || s == t ? BAD : now.bonds[s][t];
    }

    void remember() {
      past.add(now.copy());
      if (past.size() > 10) {
        past.remove(0);
      }
    }

    int count(int s, int halves, int hurt) {
      now.hurt = Math.min(999999, now.hurt + hurt);
      now.due[s] = Math.max(0, now.due[s] - halves);
      return now.due[s];
    }

    int falls(int p, int s) {
      if (noPerson(p) || noStair(s)) {
        return BAD;
      }
      remember();
      return count(s, halves(p), people.get(p)[2]);
    }

    int together(int p, int q, int s) {
      if (noPerson(p) || noPerson(q) || p == q || noStair(s)) {
        return BAD;
      }
      remember();
      return count(s, pair, people.get(p)[2] + people.get(q)[2]);
    }

    int throwsDoll(int s) {
      if (noStair(s)) {
        return BAD;
      }
      if (now.thrown[s] == dolls) {
        return STATE;
      }
      remember();
      now.thrown[s]++;
      return count(s, 1, 0);
    }

    int sells(int s, int t, int n) {
      if (noStair(s) || noStair(t) || s == t || n < 1 || n > 99) {
        return BAD;
      }
      if (n > now.due[s]) {
        return STATE;
      }
      if (now.due[t] > 999 - n) {
        return FULL;
      }
      remember();
      now.due[s] -= n;
      now.due[t] += n;
      now.bonds[s][t] += n;
      return now.due[s];
    }

    int redeems(int s) {
      if (noStair(s)) {
        return BAD;
      }
      if (now.due[s] == 0) {
        return STATE;
      }
      remember();
      int was = now.due[s];
      now.due[s] = 0;
      return was;
    }

    int ends() {
      if (now.year == 99) {
        return STATE;
      }
      remember();
      for (int s = 0; s < stairs.size(); s++) {
        now.due[s] = Math.min(999, now.due[s] + stairs.get(s)[3]);
      }
      now.thrown = new int[stairs.size()];
      now.bonds = new int[stairs.size()][stairs.size()];
      now.year++;
      return Arrays.stream(now.due).sum();
    }

    int undo() {
      if (past.isEmpty()) {
        return STATE;
      }
      now = past.remove(past.size() - 1);
      return past.size();
    }

    int now(int what) {
      int bits = 0;
      int dear = NONE;
      for (int s = stairs.size() - 1; s >= 0; s--) {
        bits += now.due[s] == 0 ? 1 << s : 0;
        dear = dear == NONE || price(s) >= price(dear) ? s : dear;
      }
      switch (what) {
        case 0: return now.year;
        case 1: return Arrays.stream(now.due).sum();
        case 2: return bits;
        case 3: return now.hurt;
        case 4: return dear;
        case 5: return struck();
        default: return BAD;
      }
    }

    /** Looks for the least ring anew after each one that is struck. */
    int struck() {
      int[][] bonds = now.copy().bonds;
      int sum = 0;
      while (true) {
        List<List<Integer>> rings = new ArrayList<>();
        for (int s = 0; s < bonds.length; s++) {
          gather(bonds, new ArrayList<>(List.of(s)), rings);
        }
        if (rings.isEmpty()) {
          return sum;
        }
        List<Integer> least = rings.get(0);
        for (List<Integer> ring : rings) {
          if (isLess(ring, least)) {
            least = ring;
          }
        }
        int bond = Integer.MAX_VALUE;
        for (int i = 0; i < least.size(); i++) {
          bond = Math.min(bond, bonds[least.get(i)][least.get((i + 1) % least.size())]);
        }
        for (int i = 0; i < least.size(); i++) {
          bonds[least.get(i)][least.get((i + 1) % least.size())] -= bond;
          sum += bond;
        }
      }
    }

    static void gather(int[][] bonds, List<Integer> row, List<List<Integer>> rings) {
      int last = row.get(row.size() - 1);
      if (row.size() > 1 && bonds[last][row.get(0)] > 0) {
        rings.add(new ArrayList<>(row));
      }
      for (int t = 0; t < bonds.length; t++) {
        if (!row.contains(t) && bonds[last][t] > 0) {
          row.add(t);
          gather(bonds, row, rings);
          row.remove(row.size() - 1);
        }
      }
    }

    static boolean isLess(List<Integer> a, List<Integer> b) {
      if (a.size() != b.size()) {
        return a.size() < b.size();
      }
      for (int i = 0; i < a.size(); i++) {
        if (!a.get(i).equals(b.get(i))) {
          return a.get(i) < b.get(i);
        }
      }
      return false;
    }

    /** All ways that come to no floor twice, as rows of stairs. */
    List<List<Integer>> waysBetween(int from, int to) {
      List<List<Integer>> found = new ArrayList<>();
      walk(from, to, 1 << from, new ArrayList<>(), found);
      return found;
    }

    void walk(int at, int to, int been, List<Integer> way, List<List<Integer>> found) {
      if (at == to) {
        found.add(new ArrayList<>(way));
        return;
      }
      for (int s = 0; s < stairs.size(); s++) {
        int[] row = stairs.get(s);
        int then = row[0] == at ? row[1] : row[1] == at ? row[0] : -1;
        if (then >= 0 && (been >> then & 1) == 0) {
          way.add(s);
          walk(then, to, been | 1 << then, way, found);
          way.remove(way.size() - 1);
        }
      }
    }

    int surest(int from, int to, int what) {
      if (from < 0 || from > 6 || to < 0 || to > 6 || what < 0 || what > 2) {
        return BAD;
      }
      int[] best = null;
      for (List<Integer> way : waysBetween(from, to)) {
        int due = way.stream().mapToInt(s -> now.due[s]).sum();
        int steps = way.stream().mapToInt(s -> stairs.get(s)[2]).sum();
        int[] told = {due, steps, way.isEmpty() ? NONE : way.get(0)};
        best = best == null || Arrays.compare(told, best) < 0 ? told : best;
      }
      return best == null ? NONE : best[what];
    }

    int bars(int from, int to) {
      if (from < 0 || from > 6 || to < 0 || to > 6) {
        return BAD;
      }
      List<List<Integer>> all = waysBetween(from, to);
      int bits = 0;
      for (int s = 0; s < stairs.size(); s++) {
        int stair = s;
        bits += !all.isEmpty() && all.stream().allMatch(way -> way.contains(stair)) ? 1 << s : 0;
      }
      return bits;
    }

    /** Fall by fall, how much exactly is paid; what is paid beyond what is due counts as well. */
    int paid(int s, int what) {
      if (noStair(s) || what < 0 || what > 1) {
        return BAD;
      }
      List<int[]> falls = new ArrayList<>();
      for (int p = 0; p < people.size(); p++) {
        falls.add(new int[] {halves(p), people.get(p)[2]});
        for (int q = p + 1; q < people.size(); q++) {
          falls.add(new int[] {pair, people.get(p)[2] + people.get(q)[2]});
        }
      }
      int most = now.due[s] + 9;
      long[] least = new long[most + 1];
      Arrays.fill(least, Long.MAX_VALUE / 4);
      least[0] = 0;
      for (int[] fall : falls) {
        for (int j = fall[0]; fall[0] > 0 && j <= most; j++) {
          least[j] = Math.min(least[j], least[j - fall[0]] + fall[1] * 1000000L + 1);
        }
      }
      long best = Arrays.stream(least, now.due[s], most + 1).min().getAsLong();
      return best >= Long.MAX_VALUE / 4 ? NONE : (int) (what == 0 ? best / 1000000 : best % 1000000);
    }

    /** Stair by stair onwards: for each number of coins just spent, the least due and the first row of coins. */
    int coins(int n, int of) {
      if (n < 0 || n > 99 || of < -2 || of >= stairs.size()) {
        return BAD;
      }
      int[][] rows = new int[n + 1][];
      rows[0] = new int[] {0};
      for (int s = 0; s < stairs.size(); s++) {
        int[][] next = new int[n + 1][];
        for (int spent = 0; spent <= n; spent++) {
          for (int c = 0; rows[spent] != null && spent + c <= n; c++) {
            int left = dueFor(s, c);
            if (left >= 0) {
              int[] row = Arrays.copyOf(rows[spent], s + 2);
              row[0] += left;
              row[s + 1] = c;
              if (next[spent + c] == null || Arrays.compare(row, next[spent + c]) < 0) {
                next[spent + c] = row;
              }
            }
          }
        }
        rows = next;
      }
      int best = 0;
      for (int spent = 1; spent <= n; spent++) {
        best = rows[spent] != null && rows[spent][0] < rows[best][0] ? spent : best;
      }
      return of == -1 ? rows[best][0] : of == -2 ? best : rows[best][of + 1];
    }

    /** What is due with just so many coins on a stair; -1: so many can't be spent, or not by so little sense. */
    int dueFor(int s, int c) {
      int least = c == 12 ? 0 : -1;
      for (int acrobats = 0; 3 * acrobats <= c && acrobats <= 300; acrobats++) {
        int thrown = c - 3 * acrobats;
        if (thrown <= dolls - now.thrown[s]) {
          int left = Math.max(0, now.due[s] - thrown - 4 * acrobats);
          least = least < 0 ? left : Math.min(least, left);
        }
      }
      return least;
    }

    int free(int s, int n) {
      if (noStair(s) || n < 0 || n > 99) {
        return BAD;
      }
      if (now.due[s] == 0) {
        return 0;
      }
      int owes = stairs.get(s)[3];
      // Above 0 till the year in question, so nothing is lost by paying too much ahead of it.
      for (int year = 1; year <= 99; year++) {
        if (now.due[s] + (year - 1) * owes - year * n <= 0) {
          return year;
        }
      }
      return NONE;
    }

    int who(int k, int d, int h, int what) {
      if (k < 0 || k > 6 || d < 0 || d > 99 || h < 0 || h > 99 || what < 0 || what > 2) {
        return BAD;
      }
      int ways = 0;
      int each = 31;
      int some = 0;
      int codes = (int) Math.pow(7, people.size());
      for (int code = 0; code < codes; code++) {
        int times = 0;
        int halves = 0;
        int hurt = 0;
        int bits = 0;
        for (int p = 0, rest = code; p < people.size(); p++, rest /= 7) {
          times += rest % 7;
          halves += rest % 7 * halves(p);
          hurt += rest % 7 * people.get(p)[2];
          bits += rest % 7 > 0 ? 1 << p : 0;
        }
        if (times == k && halves == d && hurt == h) {
          ways++;
          each &= bits;
          some |= bits;
        }
      }
      return what == 0 ? ways : what == 1 ? (ways == 0 ? 0 : each) : some;
    }

    int odds(int d, int what) {
      if (d < 0 || d > 99 || what < 0 || what > 1) {
        return BAD;
      }
      BigInteger upper = BigInteger.ZERO;
      BigInteger lower = BigInteger.TEN.pow(people.size());
      for (int who = 0; who < 1 << people.size(); who++) {
        long part = 1;
        int halves = 0;
        for (int p = 0; p < people.size(); p++) {
          boolean fell = (who >> p & 1) == 1;
          part *= fell ? 10 - people.get(p)[1] : people.get(p)[1];
          halves += fell ? halves(p) : 0;
        }
        upper = halves >= d ? upper.add(BigInteger.valueOf(part)) : upper;
      }
      return (what == 0 ? upper : lower).divide(upper.gcd(lower)).intValue();
    }

    int mark(int kind, int s) {
      if (kind < 0 || kind > 5 || noStair(s)) {
        return NO;
      }
      int[] asked = {1, 11, 101, 1011, 10101, 100001};
      trace += asked[kind];
      int due = now.due[s];
      int steps = stairs.get(s)[2];
      int[] marks = {due, due + steps, due - now.thrown[s], 2 * due + 2 * steps,
          due - now.thrown[s] + stairs.get(s)[3], due + now.year};
      return marks[kind];
    }

    static List<State> copies(List<State> states) {
      List<State> all = new ArrayList<>();
      for (State state : states) {
        all.add(state.copy());
      }
      return all;
    }

    int keep(int image) {
      if (image != 0 && image != 1) {
        return BAD;
      }
      imageNow[image] = now.copy();
      imagePast.set(image, copies(past));
      return now.year;
    }

    int back(int image) {
      if (image != 0 && image != 1) {
        return BAD;
      }
      if (imageNow[image] == null) {
        return STATE;
      }
      now = imageNow[image].copy();
      past = copies(imagePast.get(image));
      return now.year;
    }

    int count(int what) {
      int[] counts = {stairs.size(), people.size(), dolls, pair, past.size(), text.length()};
      return what < 0 || what > 5 ? BAD : counts[what];
    }
  }
}
