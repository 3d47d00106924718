import java.io.IOException;
import java.lang.reflect.InvocationTargetException;
import java.lang.reflect.Method;
import java.nio.file.Files;
import java.nio.file.Path;
import java.util.ArrayList;
import java.util.Arrays;
import java.util.Comparator;
import java.util.List;
import java.util.NoSuchElementException;
import java.util.Set;
import java.util.TreeSet;

/**
 * What the edge tests share. A test of theirs is a static method whose name begins with the place in
 * the document (terms1_, promise07_); it tells the sentence that it is about with says(), and that
 * sentence must stand in the document at that place, word by word.
 */
final class Edge {
  static final int NONE = LoanVans.NONE;
  static final int MIN = Integer.MIN_VALUE;
  static final int MAX = Integer.MAX_VALUE;
  static final int NO_INDEX = 1000001;
  static final int NO_ELEMENT = 1000002;
  static final int ANOTHER = 1000003;

  /**
   * Van 0 is at a on even days and at b on odd ones, van 1 at b on day 0, at c on day 1, at a on day 2.
   * Item 0 goes by van 0 to b and is lent there on day 2, item 1 waits for room till day 2 and is lent
   * at c on day 5, item 2 comes to a on day 2, which is shut on day 3, and is lent there on day 4.
   */
  static final String TOWN = "branch a closed 3; branch b; branch c;\n"
      + "title t 5; title u 2; item t a; item t a; item u b; van 1 a b; van 2 b c a;\n"
      + "hold b t; hold c t; hold a u; grace 2; renews 1;";

  /** As much as there may be of all: 84 lines. */
  static final String FULL = "branch a;branch b;branch c;branch d;branch e;branch f;branch g;branch h closed 6;"
      + "title a 1;title b 1;title c 1;title d 1;title e 1;title f 60;" + times("item a a;", 23) + "item f h;"
      + times("van 1 a b;", 3) + "van 9 a b c d e f g h;" + times("hold a a;", 39) + "hold h f;grace 30;renews 9;";

  /** From a on day 4 on it takes all of the 40 days to e: by b till day 24, by c till 35, by d on 39. */
  static final String FAR = "branch a; branch b; branch c; branch d; branch e; branch f; branch g; branch h;"
      + "van 1 a a a b a a a a; van 1 b f f f f f f c; van 1 c g g g d g g; van 1 h h h h e h h d;";

  private static final Path DOC = Path.of("../shared/DOC.md");
  private static int wrong = 0;
  private static String test = "";
  private static final Set<String> said = new TreeSet<>();

  private Edge() {
  }

  interface Call {
    int answer();
  }

  interface Of {
    int answer(int n);
  }

  interface Does {
    void to(LoanVans x);
  }

  // ---- the tests of a class

  /** Runs all tests of a class; each of these places of the document must have one. */
  static void run(Class<?> tests, String... places) {
    Method[] methods = tests.getDeclaredMethods();
    Arrays.sort(methods, Comparator.comparing(Method::getName));
    Set<String> all = new TreeSet<>();
    int ran = 0;
    for (Method m : methods) {
      if (m.getName().contains("_") && m.getParameterCount() == 0) {
        runOne(m);
        all.addAll(said);
        ran++;
      }
    }
    for (String place : places) {
      if (!all.contains(place)) {
        tell("no test is about " + place);
      }
    }
    System.out.println(ran + " tests of edges, " + (wrong == 0 ? "all hold" : wrong + " answers are not as due"));
    if (wrong != 0) {
      System.exit(1);
    }
  }

  private static void runOne(Method m) {
    test = m.getName();
    said.clear();
    try {
      m.setAccessible(true);
      m.invoke(null);
    } catch (InvocationTargetException e) {
      tell("threw " + e.getCause());
    } catch (IllegalAccessException e) {
      tell("can't be run");
    }
    String place = test.substring(0, test.indexOf('_'));
    if (!said.contains(place)) {
      tell("doesn't say which sentence it is about");
    }
  }

  private static void tell(String what) {
    wrong++;
    System.out.println(test + ": " + what);
  }

  /** The sentence that the test is about; where is terms1 .. terms4, promise01 .. promise54, or what. */
  static void says(String where, String words) {
    said.add(where);
    String part = part(where);
    if (part != null && !part.contains(words)) {
      tell("the document doesn't say in " + where + ": " + words);
    }
  }

  /** The part of the document with a name; null where the document isn't there. */
  private static String part(String where) {
    String doc;
    try {
      doc = Files.exists(DOC) ? Files.readString(DOC) : null;
    } catch (IOException e) {
      doc = null;
    }
    if (doc == null) {
      return null;
    }
    String head = "## What it is";
    String tail = "\n## ";
    if (where.startsWith("terms")) {
      head = "==== " + where.substring(5) + ". ";
      tail = "\n==== ";
    } else if (where.startsWith("promise")) {
      head = "## Promise " + Integer.parseInt(where.substring(7)) + ":";
    }
    int from = doc.indexOf(head);
    if (from < 0) {
      return "";
    }
    int to = doc.indexOf(tail, from + 1);
    int section = doc.indexOf("\n## ", from + 1);
    int end = Math.min(to < 0 ? doc.length() : to, section < 0 ? doc.length() : section);
    return doc.substring(from, end).replaceAll("\\s+", " ");
  }

  // ---- answers

  static void due(String call, int got, int want) {
    if (got != want) {
      tell(call + " answered " + got + ", due is " + want);
    }
  }

  static void due(String call, boolean got, boolean want) {
    if (got != want) {
      tell(call + " answered " + got + ", due is " + want);
    }
  }

  /** What a call answers, or which of the exceptions of the document it throws. */
  static int thrown(Call call) {
    try {
      return call.answer();
    } catch (RuntimeException e) {
      return e.getClass() == IndexOutOfBoundsException.class ? NO_INDEX
          : e.getClass() == NoSuchElementException.class ? NO_ELEMENT : ANOTHER;
    }
  }

  /** A number from least to most is taken, the next ones beyond and the farthest ones are refused. */
  static void range(String call, Of of, int least, int wantLeast, int most, int wantMost, int refused) {
    at(call, of, least, wantLeast);
    at(call, of, most, wantMost);
    beyond(call, of, least, most, refused);
  }

  static void beyond(String call, Of of, int least, int most, int refused) {
    at(call, of, least - 1, refused);
    at(call, of, most + 1, refused);
    at(call, of, MIN, refused);
    at(call, of, MAX, refused);
  }

  private static void at(String call, Of of, int n, int want) {
    due(call + " with " + n, thrown(() -> of.answer(n)), want);
  }

  // ---- texts

  static String times(String s, int n) {
    StringBuilder all = new StringBuilder();
    for (int k = 0; k < n; k++) {
      all.append(s);
    }
    return all.toString();
  }

  static void feed(LoanVans x, String s) {
    for (int at = 0; at < s.length(); at += 20) {
      int[] n = new int[5];
      for (int k = 0; k < 20; k++) {
        n[k / 4] = n[k / 4] << 8 | (at + k < s.length() ? s.charAt(at + k) & 255 : ' ');
      }
      x.feed(n[0], n[1], n[2], n[3], n[4]);
    }
  }

  static int tell(LoanVans x, String s) {
    feed(x, s);
    return x.text(s.length());
  }

  static LoanVans of(String s) {
    LoanVans x = new LoanVans();
    if (tell(x, s) < 0) {
      tell("fault " + x.fault(0) + " at " + x.fault(1) + " of " + s);
    }
    return x;
  }

  static LoanVans of(String s, int days) {
    LoanVans x = of(s);
    x.days(days);
    return x;
  }

  static LoanVans town(int days) {
    return days == 0 ? of(TOWN) : of(TOWN, days);
  }

  static void good(String s, int lines) {
    LoanVans x = new LoanVans();
    due(s, tell(x, s), lines);
    due("fault(0) of " + s, x.fault(0), 0);
    due("fault(1) of " + s, x.fault(1), NONE);
  }

  static void fault(String s, int which, int place) {
    LoanVans x = new LoanVans();
    due(s, tell(x, s), NONE);
    due("fault(0) of " + s, x.fault(0), which);
    due("fault(1) of " + s, x.fault(1), place);
  }

  // ---- all that can be seen

  private static final int[] BRANCH = {0, 1, 2, 3, 4};
  private static final int[] TITLE = {0, 1, 2, 3};
  private static final int[] ITEM = {0, 1, 2, 3, 4, 5, 6, 7, 8, 9};
  private static final int[] HOLD = {0, 1, 2, 3, 4, 5};
  private static final int[] VAN = {0, 1, 2, 3, 4};

  /** What x shows, but for the tape and the faults; where there is much, so little of it that 512 calls are enough. */
  static List<Integer> all(LoanVans x) {
    boolean much = x.count(3) + x.count(5) > 16;
    List<Integer> seen = new ArrayList<>();
    for (int what = 0; what < 13; what++) {
      seen.add(x.count(what));
    }
    rows(seen, x.count(3), much ? new int[] {2, 5} : ITEM, x::item);
    rows(seen, x.count(5), much ? new int[] {2, 3} : HOLD, x::holdOf);
    if (!much) {
      rows(seen, x.count(1), BRANCH, x::branch);
      rows(seen, x.count(2), TITLE, x::title);
      rows(seen, x.count(4), VAN, x::van);
      for (int v = 0; v < x.count(4); v++) {
        for (int k = 0; k < x.van(v, 1); k++) {
          seen.add(x.stop(v, k));
        }
      }
      for (int k = 0; x.log(k, 0) >= 0; k++) {
        seen.add(x.log(k, 0));
      }
    }
    return seen;
  }

  /** What x shows, but for the tape, the faults and what can be undone. */
  static List<Integer> allNow(LoanVans x) {
    List<Integer> seen = all(x);
    seen.remove(9);
    return seen;
  }

  private interface Row {
    int answer(int n, int what);
  }

  private static void rows(List<Integer> seen, int count, int[] whats, Row row) {
    for (int n = 0; n < count; n++) {
      for (int what : whats) {
        seen.add(row.answer(n, what));
      }
    }
  }

  /** Two of one kind show the same now, and again when all is undone that can be. */
  static void same(String call, LoanVans x, LoanVans y) {
    due(call + ": all stays", all(x).equals(all(y)), true);
    for (int k = 0; k < 13; k++) {
      due(call + ": what can be undone stays", x.undo(), y.undo());
    }
    due(call + ": all that was stays", all(x).equals(all(y)), true);
  }

  /** What is done to one of two that are alike leaves it as it was. */
  static void still(String call, LoanVans x, LoanVans twin, Does does) {
    does.to(x);
    same(call, x, twin);
  }
}
