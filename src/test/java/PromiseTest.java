import java.util.NoSuchElementException;

/** For each promise of the document: ordinary calls, the edges that it names, and wrong arguments. */
public final class PromiseTest {
  private static final int NONE = -1;
  private static final int NO_INDEX = 1000001;
  private static final int NO_ELEMENT = 1000002;

  /**
   * Van 0 is at a on even days and at b on odd ones, van 1 at b on day 0, at c on day 1, at a on day 2.
   * Item 0 goes by van 0 to b and is lent there on day 2; item 1 must wait for room till day 2 and is
   * lent at c on day 5; item 2 comes to a on day 2, which is shut on day 3, and is lent there on day 4.
   */
  private static final String TOWN = "branch a closed 3; branch b; branch c;\n"
      + "title t 5; title u 2; item t a; item t a; item u b; van 1 a b; van 2 b c a;\n"
      + "hold b t; hold c t; hold a u; grace 2; renews 1;";

  /** From a on day 4 on it takes all of the 40 days to e: by b till day 24, by c till 35, by d on 39. */
  private static final String FAR_TOWN = "branch a; branch b; branch c; branch d; branch e; branch f; branch g; branch h;"
      + "van 1 a a a b a a a a; van 1 b f f f f f f c; van 1 c g g g d g g; van 1 h h h h e h h d;";

  private static int wrong = 0;
  private static int promise = 0;

  private static void due(String call, int got, int want) {
    if (got != want) {
      wrong++;
      System.out.println("promise " + promise + ": " + call + " answered " + got + ", due is " + want);
    }
  }

  private interface Call {
    int answer();
  }

  private static int thrown(Call call) {
    try {
      return call.answer();
    } catch (IndexOutOfBoundsException e) {
      return e.getClass() == IndexOutOfBoundsException.class ? NO_INDEX : NO_INDEX + 10;
    } catch (NoSuchElementException e) {
      return NO_ELEMENT;
    }
  }

  private static void feed(LoanVans x, String s) {
    for (int at = 0; at < s.length(); at += 20) {
      int[] n = new int[5];
      for (int k = 0; k < 20; k++) {
        n[k / 4] = n[k / 4] << 8 | (at + k < s.length() ? s.charAt(at + k) : ' ');
      }
      x.feed(n[0], n[1], n[2], n[3], n[4]);
    }
  }

  private static int tell(LoanVans x, String s) {
    feed(x, s);
    return x.text(s.length());
  }

  private static LoanVans of(String s) {
    LoanVans x = new LoanVans();
    if (tell(x, s) < 0) {
      wrong++;
      System.out.println("promise " + promise + ": fault " + x.fault(0) + " at " + x.fault(1) + " of " + s);
    }
    return x;
  }

  private static LoanVans town(int days) {
    LoanVans x = of(TOWN);
    if (days > 0) {
      x.days(days);
    }
    return x;
  }

  private static void newObject() {
    LoanVans x = new LoanVans();
    due("NONE", LoanVans.NONE, -1);
    for (int what = 0; what < 14; what++) {
      due("count(" + what + ")", x.count(what), what == 7 ? 3 : what == 8 ? 1 : 0);
    }
    due("days(60)", x.days(60), 60);
    due("undo()", x.undo(), 0);
  }

  private static void tape() {
    LoanVans x = new LoanVans();
    for (int k = 1; k <= 45; k++) {
      due("feed " + k, x.feed(0x20202020, 0x20202020, 0x20202020, 0x20202020, 0x20202020), 20 * k);
    }
    due("feed 46", x.feed(0, 0, 0, 0, 0), NONE);
    due("count(13)", x.count(13), 900);
    due("text(900)", x.text(900), 0);
    due("count(13)", x.count(13), 0);
    due("highest first", x.feed(('g' << 24) + ('r' << 16) + ('a' << 8) + 'c', ('e' << 24) + (' ' << 16) + ('4' << 8) + ';', 0, 0, 0), 20);
    due("text(8)", x.text(8), 1);
    due("count(7)", x.count(7), 4);
    due("feed", x.feed(-1, -1, -1, -1, -1), 20);
    due("text(20)", x.text(20), NONE);
    due("fault(0)", x.fault(0), 1);
    due("fault(1)", x.fault(1), 0);
  }

  private static void texts() {
    LoanVans x = new LoanVans();
    due("the town", tell(x, TOWN), 15);
    due("count(0)", x.count(0), 15);
    due("days(7)", x.days(7), 7);
    due("text(-1)", x.text(-1), -2);
    feed(x, "branch q;");
    due("text(21)", x.text(21), -2);
    due("count(13)", x.count(13), 20);
    due("text(8)", x.text(8), NONE);
    due("the tape is empty", x.count(13), 0);
    due("all else stays: the day", x.count(6), 7);
    due("all else stays: lines", x.count(0), 15);
    due("all else stays: branches", x.count(1), 3);
    due("all else stays: what can be undone", x.count(9), 1);
    due("anew", tell(x, "branch q;branch r ; \n"), 2);
    int[] left = {2, 2, 0, 0, 0, 0, 0, 3, 1, 0, 0, 0, 0, 0};
    for (int what = 0; what < left.length; what++) {
      due("count(" + what + ")", x.count(what), left[what]);
    }
    due("nothing", tell(x, ""), 0);
    due("no branches", x.count(1), 0);
    again(town(12));
  }

  /** Nothing of an older text is left behind a new one. */
  private static void again(LoanVans x) {
    due("arrival(0, 1, 0)", x.arrival(0, 1, 0), 1);
    due("lentOn(0)", x.lentOn(0), 2);
    due("the other town", tell(x, "branch z closed 0; branch y closed 6; title z 1; item z z; item z z; van 1 z z y; hold y z; renews 2;"), 8);
    due("branch(0, 0)", x.branch(0, 0), 0);
    due("branch(1, 0)", x.branch(1, 0), 6);
    due("arrival(0, 1, 0)", x.arrival(0, 1, 0), 2);
    due("meanWait()", x.meanWait(), -2);
    due("log(0, 0)", x.log(0, 0), -2);
    due("van(0, 1)", x.van(0, 1), 3);
    due("van(0, 4)", x.van(0, 4), 0);
    due("item(0, 9)", x.item(0, 9), 0);
    due("undo()", x.undo(), NONE);
    due("lentOn(0)", x.lentOn(0), 3);
    due("the town once more", tell(x, TOWN), 15);
    due("branch(1, 0)", x.branch(1, 0), -2);
    due("arrival(0, 1, 0)", x.arrival(0, 1, 0), 1);
    due("van(1, 1)", x.van(1, 1), 3);
    due("lentOn(1)", x.lentOn(1), 5);
  }

  private static void fault(String s, int which, int place) {
    LoanVans x = new LoanVans();
    due(s, tell(x, s), NONE);
    due("fault(0) of " + s, x.fault(0), which);
    due("fault(1) of " + s, x.fault(1), place);
  }

  private static String times(String s, int n) {
    StringBuilder all = new StringBuilder();
    for (int k = 0; k < n; k++) {
      all.append(s);
    }
    return all.toString();
  }

  private static void wrongTokens() {
    fault("branch sevenly;", 1, 7);
    fault("branch a;;", 1, 9);
    fault("branch A;", 1, 7);
    fault("branch aB;", 1, 8);
    fault("branch a, branch b;", 1, 8);
    fault("branch van;", 1, 7);
    fault("branch 7;", 1, 7);
    fault("branch a closed;", 1, 15);
    fault("branch a closed b;", 1, 16);
    fault("branch a 3;", 1, 9);
    fault("branch", 1, 6);
    fault("branch a \n ", 1, 11);
    fault("a;", 1, 0);
    fault("title t;", 1, 7);
    fault("title t 1 2;", 1, 10);
    fault("branch a; item a a;", 1, 15);
    fault("branch a; title t 1; item t b;", 1, 28);
    fault("branch a; title t 1; item a t;", 1, 26);
    fault("branch a; title t 1; hold t a;", 1, 26);
    fault("branch a; title t 1; hold b t;", 1, 26);
    fault("branch a; van a a;", 1, 14);
    fault("branch a; van 1 a;", 1, 17);
    fault("branch a; van 1 a b;", 1, 18);
    fault("branch a; van 1 a a 2;", 1, 20);
    fault("branch a; van 1 a a van;", 1, 20);
    fault("branch a; van 1 a a a a a a a a b;", 1, 32);
    fault("grace;", 1, 5);
    fault("renews a;", 1, 7);
    fault("grace 3", 1, 7);
    fault("grace 3\t;", 1, 7);
    fault("grace 99999 A;", 2, 6);
  }

  private static void numbersBeyond() {
    fault("branch a closed 7;", 2, 16);
    fault("title t 0;", 2, 8);
    fault("title t 61;", 2, 8);
    fault("branch a; van 0 a a;", 2, 14);
    fault("branch a; van 10 a a;", 2, 14);
    fault("grace 31;", 2, 6);
    fault("renews 10;", 2, 7);
    fault("grace 4294967299;", 2, 6);
    fault("grace 99999999999999999999999;", 2, 6);
    fault("branch a; van 1 a a a a a a a a a;", 2, 32);
    String branches = "branch a;branch b;branch c;branch d;branch e;branch f;branch g;branch h;";
    due("eight branches", tell(new LoanVans(), branches), 8);
    fault(branches + "branch a;", 2, branches.length());
    String titles = "title a 1;title b 1;title c 1;title d 1;title e 1;title f 60;";
    due("six titles", tell(new LoanVans(), titles), 6);
    fault(titles + "title g", 2, titles.length());
    String items = "branch a;title t 1;" + times("item t a;", 24);
    due("24 items", tell(new LoanVans(), items), 26);
    fault(items + "item", 2, items.length());
    String vans = "branch a;" + times("van 9 a a;", 4);
    due("four vans", tell(new LoanVans(), vans), 5);
    fault(vans + "van 99", 2, vans.length());
    String holds = "branch a;title t 1;" + times("hold a t;", 40);
    due("40 holds", tell(new LoanVans(), holds), 42);
    fault(holds + "hold", 2, holds.length());
  }

  private static void faults() {
    LoanVans x = new LoanVans();
    due("fault(0)", x.fault(0), 0);
    due("fault(1)", x.fault(1), NONE);
    due("fault(2)", x.fault(2), NONE);
    due("fault(-1)", x.fault(-1), NONE);
    due("a fault", tell(x, "grace 3; grace 4;"), NONE);
    due("fault(0)", x.fault(0), 3);
    due("fault(1)", x.fault(1), 9);
    due("text(1)", x.text(1), -2);
    due("fault(0) stays", x.fault(0), 3);
    due("none", tell(x, "grace 3;renews 0007;"), 2);
    due("fault(0)", x.fault(0), 0);
    due("fault(1)", x.fault(1), NONE);
    due("no blanks", tell(x, "branch a closed6;title a1;van9a a;"), 3);
    feed(x, "grace 31;");
    due("a text that ends within a number", x.text(7), NONE);
    due("fault(0)", x.fault(0), 1);
    due("fault(1)", x.fault(1), 7);
    wrongTokens();
    numbersBeyond();
    fault("branch a; branch b; branch a", 3, 27);
    fault("title a 1; title a 1;", 3, 17);
    fault("renews 0; renews", 3, 10);
    due("alike", tell(x, "branch a; title a 1;"), 2);
  }

  private static void branches() {
    LoanVans x = town(0);
    due("branch(0, 0)", x.branch(0, 0), 3);
    due("branch(1, 0)", x.branch(1, 0), -2);
    due("branch(0, 1)", x.branch(0, 1), 2);
    due("branch(0, 3)", x.branch(0, 3), 2);
    due("branch(2, 4)", x.branch(2, 4), 1);
    x.days(5);
    due("branch(0, 1)", x.branch(0, 1), 0);
    due("branch(2, 1)", x.branch(2, 1), 1);
    due("branch(1, 2)", x.branch(1, 2), 1);
    due("branch(0, 2)", x.branch(0, 2), 1);
    due("branch(2, 4)", x.branch(2, 4), 0);
    due("branch(1, 3)", x.branch(1, 3), 1);
    due("branch(3, 9)", thrown(() -> x.branch(3, 9)), NO_INDEX);
    due("branch(-1, 0)", thrown(() -> x.branch(-1, 0)), NO_INDEX);
    due("branch(2, 5)", thrown(() -> x.branch(2, 5)), NO_ELEMENT);
    due("branch(0, -1)", thrown(() -> x.branch(0, -1)), NO_ELEMENT);
  }

  private static void titles() {
    LoanVans x = town(0);
    due("title(1, 0)", x.title(1, 0), 2);
    due("title(0, 1)", x.title(0, 1), 2);
    due("title(0, 2)", x.title(0, 2), 2);
    due("title(0, 3)", x.title(0, 3), 2);
    x.days(1);
    due("title(0, 2)", x.title(0, 2), 0);
    due("title(0, 3)", x.title(0, 3), 0);
    due("title(2, 9)", thrown(() -> x.title(2, 9)), NO_INDEX);
    due("title(-1, 0)", thrown(() -> x.title(-1, 0)), NO_INDEX);
    due("title(0, 4)", thrown(() -> x.title(0, 4)), NO_ELEMENT);
    due("title(0, -1)", thrown(() -> x.title(0, -1)), NO_ELEMENT);
  }

  private static void row(LoanVans x, int i, int... want) {
    for (int what = 0; what < want.length; what++) {
      due("item(" + i + ", " + what + ") on day " + x.count(6), x.item(i, what), want[what]);
    }
  }

  private static void items() {
    LoanVans x = town(0);
    row(x, 2, 1, 1, 0, 1, -2, -2, 0, -2, -2, 0);
    x.days(1);
    row(x, 0, 0, 0, 1, 0, 0, -2, 0, 1, 1, 0);
    row(x, 1, 0, 0, 0, 0, 1, -2, 0, -2, -2, 0);
    row(x, 2, 1, 1, 1, 1, 2, -2, 0, 2, 1, 0);
    x.days(2);
    row(x, 0, 0, 0, 2, 1, 0, 7, 0, -2, -2, 1);
    x.renew(0);
    row(x, 0, 0, 0, 2, 1, 0, 12, 1, -2, -2, 1);
    x.undo();
    x.days(6);
    row(x, 0, 0, 0, 0, 0, -2, -2, 0, -2, -2, 1);
    due("item(3, 99)", thrown(() -> x.item(3, 99)), NO_INDEX);
    due("item(-1, 0)", thrown(() -> x.item(-1, 0)), NO_INDEX);
    due("item(0, 10)", thrown(() -> x.item(0, 10)), NO_ELEMENT);
    due("item(0, -1)", thrown(() -> x.item(0, -1)), NO_ELEMENT);
  }

  private static void holdRow(LoanVans x, int h, int... want) {
    for (int what = 0; what < want.length; what++) {
      due("holdOf(" + h + ", " + what + ") on day " + x.count(6), x.holdOf(h, what), want[what]);
    }
  }

  private static void holds() {
    LoanVans x = town(0);
    holdRow(x, 1, 2, 0, 0, -2, 0, -2);
    x.days(1);
    holdRow(x, 1, 2, 0, 1, 1, 0, -2);
    due("hold(0, 0)", x.hold(0, 0), 3);
    x.days(4);
    holdRow(x, 0, 1, 0, 2, 0, 0, 2);
    holdRow(x, 3, 0, 0, 0, -2, 1, -2);
    x.cancel(1);
    holdRow(x, 1, 2, 0, 4, 1, 0, -2);
    x.cancel(3);
    holdRow(x, 3, 0, 0, 4, -2, 1, -2);
    x.days(3);
    holdRow(x, 0, 1, 0, 3, 0, 0, 2);
    due("holdOf(4, 9)", thrown(() -> x.holdOf(4, 9)), NO_INDEX);
    due("holdOf(-1, 0)", thrown(() -> x.holdOf(-1, 0)), NO_INDEX);
    due("holdOf(0, 6)", thrown(() -> x.holdOf(0, 6)), NO_ELEMENT);
    due("holdOf(0, -1)", thrown(() -> x.holdOf(0, -1)), NO_ELEMENT);
  }

  private static void vans() {
    LoanVans x = town(4);
    int[] first = {1, 2, 0, 0, 2, NONE};
    int[] second = {2, 3, 2, 1, 3, NONE};
    for (int what = 0; what < 6; what++) {
      due("van(0, " + what + ")", x.van(0, what), first[what]);
      due("van(1, " + what + ")", x.van(1, what), second[what]);
    }
    due("van(2, 0)", x.van(2, 0), NONE);
    due("van(-1, 0)", x.van(-1, 0), NONE);
    due("van(0, -1)", x.van(0, -1), NONE);
  }

  private static void stops() {
    LoanVans x = town(1);
    due("stop(1, 0)", x.stop(1, 0), 1);
    due("stop(1, 2)", x.stop(1, 2), 0);
    due("stop(1, 3)", x.stop(1, 3), NONE);
    due("stop(0, 2)", x.stop(0, 2), NONE);
    due("stop(0, -1)", x.stop(0, -1), NONE);
    due("stop(2, 0)", x.stop(2, 0), NONE);
    due("stop(-1, 0)", x.stop(-1, 0), NONE);
  }

  private static void moreHolds() {
    LoanVans x = town(2);
    due("hold(3, 0)", x.hold(3, 0), NONE);
    due("hold(0, 2)", x.hold(0, 2), NONE);
    due("hold(-1, 0)", x.hold(-1, 0), NONE);
    due("hold(0, -1)", x.hold(0, -1), NONE);
    for (int h = 3; h < 40; h++) {
      due("hold(2, 1)", x.hold(2, 1), h);
    }
    x.cancel(39);
    due("hold(2, 1)", x.hold(2, 1), -2);
    due("hold(3, 1)", x.hold(3, 1), NONE);
    due("count(9)", x.count(9), 12);
    due("holdOf(39, 4)", x.holdOf(39, 4), 2);
  }

  private static void cancelled() {
    LoanVans x = town(1);
    due("cancel(0)", x.cancel(0) ? 1 : 0, 1);
    row(x, 0, 0, 0, 1, 0, -2, -2, 0, 1, 1, 0);
    due("title(0, 2): in a van it isn't free", x.title(0, 2), 0);
    due("cancel(0)", x.cancel(0) ? 1 : 0, 0);
    x.days(1);
    row(x, 0, 0, 0, 1, 0, -2, -2, 0, 0, 2, 0);
    due("van(0, 4): it is boarded again where it is free", x.van(0, 4), 2);
    x.days(1);
    due("cancel(1)", x.cancel(1) ? 1 : 0, 1);
    x.days(2);
    due("cancel(2): lent", x.cancel(2) ? 1 : 0, 0);
    due("cancel(3)", x.cancel(3) ? 1 : 0, 0);
    due("cancel(-1)", x.cancel(-1) ? 1 : 0, 0);
    x.days(20);
    due("cancel(2): over", x.cancel(2) ? 1 : 0, 0);
    LoanVans y = town(1);
    due("cancel(1)", y.cancel(1) ? 1 : 0, 1);
    due("title(0, 2): at a branch it is free at once", y.title(0, 2), 1);
    y.hold(0, 0);
    y.days(1);
    due("another hold has it", y.item(1, 4), 3);
  }

  private static void recalled() {
    LoanVans x = town(2);
    due("recall(0): in no loan yet", x.recall(0), -2);
    x.days(1);
    due("recall(0)", x.recall(0), 5);
    due("count(9)", x.count(9), 3);
    due("recall(0) again", x.recall(0), 5);
    due("count(9)", x.count(9), 3);
    due("recall(3)", x.recall(3), NONE);
    due("recall(-1)", x.recall(-1), NONE);
    x.days(2);
    due("it is still out", x.item(0, 2), 2);
    x.days(1);
    due("it came back", x.item(0, 4), -2);
    LoanVans y = of("branch a closed 3; title t 9; item t a; hold a t; grace 2;");
    y.days(1);
    due("recall(0) to a day on which a is shut", y.recall(0), 4);
    LoanVans z = of("branch a closed 3; title t 9; item t a; hold a t; grace 0;");
    z.days(1);
    due("recall(0) to this day", z.recall(0), 1);
    z.days(1);
    due("back that day", z.holdOf(0, 2), 3);
    LoanVans w = of("branch a; title t 2; item t a; hold a t; grace 5;");
    w.days(1);
    due("recall(0) to a later day", w.recall(0), 2);
    due("count(9)", w.count(9), 1);
  }

  private static void renewed() {
    LoanVans x = town(3);
    due("renew(1)", x.renew(1), -2);
    due("renew(3)", x.renew(3), NONE);
    due("renew(-1)", x.renew(-1), NONE);
    x.hold(0, 0);
    due("renew(0) with an open hold", x.renew(0), -4);
    x.undo();
    due("renew(0)", x.renew(0), 12);
    x.hold(0, 0);
    due("renew(0) again", x.renew(0), -3);
    LoanVans y = of("branch a closed 3; title t 5; item t a; hold a t; renews 2;");
    y.days(2);
    due("renew(0) to a day on which a is shut", y.renew(0), 11);
    due("renew(0) from there on", y.renew(0), 16);
    due("renew(0)", y.renew(0), -3);
    LoanVans z = of("branch a; title t 5; item t a; hold a t; renews 0;");
    z.days(1);
    due("renew(0), never", z.renew(0), -3);
  }

  private static void goneDays() {
    LoanVans x = town(0);
    due("days(0)", x.days(0), NONE);
    due("days(61)", x.days(61), NONE);
    due("days(-1)", x.days(-1), NONE);
    due("days(1)", x.days(1), 1);
    due("days(60)", x.days(60), 61);
    due("count(6)", x.count(6), 61);
    LoanVans y = of("branch a closed 3; title t 10; item t a; hold a t; hold a t;");
    y.days(1);
    due("due on no day on which a is shut", y.item(0, 5), 11);
    y.days(11);
    due("over", y.holdOf(0, 2), 3);
    due("lent again that day", y.holdOf(1, 5), 11);
    LoanVans z = of("branch a; branch b; title t 9; item t a; item t b; item t b; hold b t; hold b t; hold b t; van 1 a b;");
    z.days(1);
    due("the nearest one first", z.holdOf(0, 3), 1);
    due("the next one", z.holdOf(1, 3), 2);
    due("the far one last", z.holdOf(2, 3), 0);
    LoanVans w = of("branch a; branch b; title t 9; item t a; hold b t;");
    w.days(5);
    due("no way, no item", w.holdOf(0, 2), 0);
  }

  private static void undone() {
    LoanVans x = town(0);
    due("undo()", x.undo(), NONE);
    x.hold(0, 0);
    x.cancel(2);
    x.days(3);
    x.recall(0);
    due("renew(0) is refused: a hold is open", x.renew(0), -4);
    due("recall(0) once more changes nothing", x.recall(0), 5);
    due("count(9)", x.count(9), 4);
    due("undo()", x.undo(), 3);
    due("item(0, 5)", x.item(0, 5), 7);
    due("undo()", x.undo(), 2);
    due("count(6)", x.count(6), 0);
    due("holdOf(2, 2)", x.holdOf(2, 2), 4);
    due("undo()", x.undo(), 1);
    due("holdOf(2, 2)", x.holdOf(2, 2), 0);
    due("undo()", x.undo(), 0);
    due("count(5)", x.count(5), 3);
    due("undo()", x.undo(), NONE);
    for (int k = 0; k < 15; k++) {
      x.days(1);
    }
    due("log(0, 3)", x.log(0, 3), 2);
    for (int k = 11; k >= 0; k--) {
      due("undo()", x.undo(), k);
    }
    due("count(6)", x.count(6), 3);
    due("undo()", x.undo(), NONE);
    due("lentOn(1)", x.lentOn(1), 5);
    due("log(0, 1)", x.log(0, 1), 0);
    due("log(1, 1)", x.log(1, 1), -2);
    due("van(0, 4)", x.van(0, 4), 2);
    x.renew(0);
    due("item(0, 6)", x.item(0, 6), 1);
    x.undo();
    due("item(0, 6)", x.item(0, 6), 0);
  }

  private static void balances() {
    LoanVans x = town(6);
    due("owed(0, 2)", x.owed(0, 2), 1);
    due("owed(2, 0)", x.owed(2, 0), -1);
    due("owed(0, 1)", x.owed(0, 1), 0);
    due("owed(1, 1)", x.owed(1, 1), Integer.MIN_VALUE);
    due("owed(3, 0)", x.owed(3, 0), Integer.MIN_VALUE);
    due("owed(0, -1)", x.owed(0, -1), Integer.MIN_VALUE);
  }

  private static void loanCounts() {
    LoanVans x = town(6);
    due("loans(0, 1)", x.loans(0, 1), 1);
    due("loans(1, 0)", x.loans(1, 0), 1);
    due("loans(0, 2)", x.loans(0, 2), 1);
    due("loans(2, 0)", x.loans(2, 0), 0);
    due("loans(3, 0)", x.loans(3, 0), NONE);
    due("loans(0, -1)", x.loans(0, -1), NONE);
    LoanVans y = of("branch a; title t 1; item t a; hold a t;");
    y.days(1);
    due("loans(0, 0)", y.loans(0, 0), 1);
  }

  private static void queues() {
    LoanVans x = town(0);
    due("queue(0, 1)", x.queue(0, 1), 1);
    due("queue(1, 0)", x.queue(1, 0), 2);
    due("queue(0, 2)", x.queue(0, 2), -2);
    due("queue(2, 0)", x.queue(2, 0), NONE);
    due("queue(-1, 0)", x.queue(-1, 0), NONE);
    due("queue(0, -1)", x.queue(0, -1), NONE);
    x.cancel(0);
    due("queue(0, 0)", x.queue(0, 0), 1);
  }

  private static void inVans() {
    LoanVans x = town(1);
    due("inVan(0, 0)", x.inVan(0, 0), 0);
    due("inVan(1, 0)", x.inVan(1, 0), 2);
    due("inVan(0, 1)", x.inVan(0, 1), -2);
    due("inVan(2, 0)", x.inVan(2, 0), NONE);
    due("inVan(-1, 0)", x.inVan(-1, 0), NONE);
    due("inVan(0, -1)", x.inVan(0, -1), NONE);
    LoanVans y = of("branch a; branch b; title t 9; item t b; item t a; item t a; item t a; van 3 a b;"
        + "hold b t; hold b t; hold b t; hold b t;");
    y.days(1);
    for (int k = 0; k < 4; k++) {
      due("inVan(0, " + k + ")", y.inVan(0, k), k < 3 ? k + 1 : -2);
    }
  }

  private static void waiting() {
    LoanVans x = of("branch a; branch b; branch c; title t 9; title u 1; item t a; item u a; item u a; item t a;"
        + "hold b u; hold c t; hold b t; van 1 c b;");
    x.days(1);
    due("waits(0, 0)", x.waits(0, 0), -2);
    LoanVans y = of("branch a; branch b; title t 9; title u 1; item t a; item u a; item u a; hold b u; hold b t; van 1 a b;");
    y.days(1);
    due("waits(0, 0)", y.waits(0, 0), 0);
    y.days(3);
    due("lent on day 2, free at b on day 3, and to its home", y.inVan(0, 0), 1);
    LoanVans z = town(1);
    due("waits(0, 0)", z.waits(0, 0), 1);
    due("waits(0, 1)", z.waits(0, 1), -2);
    due("waits(1, 0)", z.waits(1, 0), -2);
    due("waits(3, 0)", z.waits(3, 0), NONE);
    due("waits(-1, 0)", z.waits(-1, 0), NONE);
    due("waits(0, -1)", z.waits(0, -1), NONE);
    LoanVans w = of("branch a; branch b; title t 1; item t b; item t b; item t b; hold a t; hold a t; van 9 b a; van 1 b b;");
    w.days(2);
    w.cancel(0);
    w.days(1);
    due("free away from home it waits", w.waits(0, 0), 0);
    due("the other one is lent", w.waits(0, 1), -2);
  }

  private static void order() {
    LoanVans x = of("branch a; branch b; title t 1; item t b; item t b; item t b; van 1 b b; hold a t;");
    x.days(3);
    due("no way to a", x.item(0, 2), 0);
    LoanVans y = of("branch a; branch b; title t 1; title u 1; item t a; item u a; item t a; hold b t; hold b t; hold b u; van 1 a b;");
    y.days(1);
    due("by numbers of holds", y.waits(0, 0), 2);
    due("by numbers of holds", y.waits(0, 1), 1);
    y.cancel(1);
    due("free at home waits no more", y.waits(0, 0), 1);
    due("free at home waits no more", y.waits(0, 1), -2);
  }

  private static void arrivals() {
    LoanVans x = town(0);
    int[][] want = {{0, 1, 4}, {2, 0, 1}, {2, 3, 0}};
    for (int from = 0; from < 3; from++) {
      for (int to = 0; to < 3; to++) {
        due("arrival(" + from + ", " + to + ", 0)", x.arrival(from, to, 0), want[from][to]);
      }
    }
    due("arrival(0, 0, 9999)", x.arrival(0, 0, 9999), 9999);
    due("arrival(0, 2, 9999)", x.arrival(0, 2, 9999), 10003);
    due("arrival(0, 0, 10000)", x.arrival(0, 0, 10000), NONE);
    due("arrival(0, 0, -1)", x.arrival(0, 0, -1), NONE);
    due("arrival(3, 0, 0)", x.arrival(3, 0, 0), NONE);
    due("arrival(0, 3, 0)", x.arrival(0, 3, 0), NONE);
    LoanVans y = of("branch a; branch b; van 1 a a;");
    due("no way", y.arrival(0, 1, 0), -2);
    LoanVans z = of("branch a; branch b; branch c; van 1 a a a a a a b; van 1 a a a a a a a c;");
    due("a round and no more", z.arrival(1, 0, 0), 7);
    due("by two vans", z.arrival(1, 2, 0), 15);
    LoanVans far = of(FAR_TOWN);
    due("40 days", far.arrival(0, 4, 4), 44);
    due("more than 40 days", far.arrival(0, 4, 3), -2);
    due("more than 40 days", far.leg(0, 4, 3, 0), -2);
    due("reach(0, 4, 40)", far.reach(0, 4, 40), 8);
    due("reach(0, 4, 39)", far.reach(0, 4, 39), 7);
    due("legs(0, 4, 4): it goes round, as long as it is in time", far.legs(0, 4, 4), 31);
  }

  private static void firstLegs() {
    LoanVans x = town(0);
    int[] want = {0, 0, 1, 1};
    int[] other = {1, 0, 2, 1};
    for (int what = 0; what < 4; what++) {
      due("leg(0, 2, 0, " + what + ")", x.leg(0, 2, 0, what), want[what]);
      due("leg(1, 0, 0, " + what + ")", x.leg(1, 0, 0, what), other[what]);
    }
    due("leg(0, 2, 2, 0): of both vans the least", x.leg(0, 2, 2, 0), 0);
    due("leg(0, 1, 1, 1): it waits for a day", x.leg(0, 1, 1, 1), 2);
    due("leg(0, 0, 0, 0)", x.leg(0, 0, 0, 0), NONE);
    due("leg(0, 1, 0, 4)", x.leg(0, 1, 0, 4), NONE);
    due("leg(0, 1, 0, -1)", x.leg(0, 1, 0, -1), NONE);
    due("leg(0, 1, 10000, 0)", x.leg(0, 1, 10000, 0), NONE);
    due("leg(0, 1, -1, 0)", x.leg(0, 1, -1, 0), NONE);
    due("leg(3, 1, 0, 0)", x.leg(3, 1, 0, 0), NONE);
    due("leg(0, 3, 0, 0)", x.leg(0, 3, 0, 0), NONE);
    LoanVans y = of("branch a; branch b; van 1 a a; van 1 b a a b;");
    due("leg(0, 1, 0, 0)", y.leg(0, 1, 0, 0), 0);
    due("leg(0, 1, 0, 2): left where it was boarded", y.leg(0, 1, 0, 2), 0);
    LoanVans z = of("branch a; branch b; van 1 a a;");
    due("no way", z.leg(0, 1, 0, 0), -2);
  }

  private static void legCounts() {
    LoanVans x = town(0);
    due("legs(0, 2, 0)", x.legs(0, 2, 0), 4);
    due("legs(0, 2, 3)", x.legs(0, 2, 3), 2);
    due("legs(0, 1, 0)", x.legs(0, 1, 0), 1);
    due("legs(1, 1, 9999)", x.legs(1, 1, 9999), 0);
    due("legs(0, 3, 0)", x.legs(0, 3, 0), NONE);
    due("legs(-1, 0, 0)", x.legs(-1, 0, 0), NONE);
    due("legs(0, 1, 10000)", x.legs(0, 1, 10000), NONE);
    LoanVans y = of("branch a; branch b; van 1 a a;");
    due("legs(0, 1, 0)", y.legs(0, 1, 0), -2);
  }

  private static void gifts() {
    LoanVans x = town(0);
    due("given(0, 0)", x.given(0, 0), 0);
    due("given(1, 2)", x.given(1, 2), 2);
    x.days(1);
    due("given(0, 0)", x.given(0, 0), -2);
    due("given(2, 0)", x.given(2, 0), NONE);
    due("given(-1, 0)", x.given(-1, 0), NONE);
    due("given(0, 3)", x.given(0, 3), NONE);
    LoanVans y = of("branch a; branch b; branch c; title t 1; item t c; item t a; item t b; van 1 a b;");
    due("given(0, 1)", y.given(0, 1), 2);
    due("given(0, 0)", y.given(0, 0), 1);
    LoanVans z = of("branch a; branch b; title t 1; item t a;");
    due("given(0, 1): no way", z.given(0, 1), -2);
  }

  private static void lentOn() {
    int[] want = {2, 5, 4};
    for (int day = 0; day < 8; day++) {
      LoanVans x = town(day);
      for (int h = 0; h < 3; h++) {
        due("lentOn(" + h + ") on day " + day, x.lentOn(h), want[h]);
      }
      due("lentOn(3)", x.lentOn(3), NONE);
      due("lentOn(-1)", x.lentOn(-1), NONE);
      due("count(6) stays", x.count(6), day);
    }
    LoanVans y = town(1);
    y.cancel(1);
    due("lentOn(1)", y.lentOn(1), -2);
    LoanVans z = of("branch a; title t 59; item t a; hold a t; hold a t;");
    due("the last of the days", z.lentOn(1), 59);
    LoanVans w = of("branch a; title t 60; item t a; hold a t; hold a t;");
    due("one day behind them", w.lentOn(1), -2);
  }

  private static void ifHold() {
    LoanVans x = town(0);
    due("ifHold(0, 0)", x.ifHold(0, 0), 9);
    due("ifHold(1, 0)", x.ifHold(1, 0), 7);
    due("count(5) stays", x.count(5), 3);
    due("ifHold(3, 0)", x.ifHold(3, 0), NONE);
    due("ifHold(0, 2)", x.ifHold(0, 2), NONE);
    LoanVans y = of("branch a; title t 1;" + times("hold a t;", 39));
    due("ifHold(0, 0): no item", y.ifHold(0, 0), -2);
    y.hold(0, 0);
    due("ifHold(0, 0): no more", y.ifHold(0, 0), -3);
    due("ifHold(0, 1)", y.ifHold(0, 1), NONE);
  }

  private static void ifCancelled() {
    LoanVans x = of(TOWN + "hold b t;");
    due("lentOn(3)", x.lentOn(3), 7);
    due("ifCancelled(3, 1)", x.ifCancelled(3, 1), 4);
    due("ifCancelled(3, 0)", x.ifCancelled(3, 0), 6);
    due("ifCancelled(0, 0)", x.ifCancelled(0, 0), NONE);
    due("ifCancelled(4, 0)", x.ifCancelled(4, 0), NONE);
    due("ifCancelled(0, 4)", x.ifCancelled(0, 4), NONE);
    x.cancel(1);
    due("ifCancelled(1, 0)", x.ifCancelled(1, 0), -2);
    due("ifCancelled(0, 1)", x.ifCancelled(0, 1), -3);
    x.days(3);
    due("ifCancelled(1, 0): that one is lent", x.ifCancelled(1, 0), -3);
  }

  private static void ifNoVan() {
    LoanVans x = town(0);
    due("ifNoVan(0, 0)", x.ifNoVan(0, 0), 4);
    due("ifNoVan(1, 0)", x.ifNoVan(1, 0), 5);
    due("ifNoVan(0, 1)", x.ifNoVan(0, 1), 2);
    due("ifNoVan(1, 1)", x.ifNoVan(1, 1), -2);
    due("ifNoVan(0, 2)", x.ifNoVan(0, 2), NONE);
    due("ifNoVan(3, 0)", x.ifNoVan(3, 0), NONE);
    x.days(1);
    due("ifNoVan(0, 0): it is in that van", x.ifNoVan(0, 0), 2);
    due("lentOn(0): it was so for that question alone", x.lentOn(0), 2);
  }

  private static void where() {
    LoanVans x = town(0);
    int[] want = {0, 10, 1, 21, 21, 21, 21, 21, 10, 0};
    for (int n = 0; n < want.length; n++) {
      due("where(0, " + n + ")", x.where(0, n), want[n]);
    }
    due("where(2, 1)", x.where(2, 1), 11);
    due("where(0, 60)", x.where(0, 60), 0);
    due("where(0, 61)", x.where(0, 61), NONE);
    due("where(0, -1)", x.where(0, -1), NONE);
    due("where(3, 0)", x.where(3, 0), NONE);
  }

  private static void served() {
    LoanVans x = town(0);
    int[] want = {0, 0, 0, 1, 1, 2, 3, 3};
    for (int n = 0; n < want.length; n++) {
      due("served(" + n + ")", x.served(n), want[n]);
    }
    due("served(60)", x.served(60), 3);
    due("served(61)", x.served(61), NONE);
    due("served(-1)", x.served(-1), NONE);
  }

  private static void meet() {
    LoanVans x = town(0);
    due("meet(0, 1)", x.meet(0, 1), 2);
    due("meet(1, 0)", x.meet(1, 0), 2);
    x.days(3);
    due("meet(0, 1)", x.meet(0, 1), 3);
    due("meet(0, 0)", x.meet(0, 0), NONE);
    due("meet(0, 2)", x.meet(0, 2), NONE);
    due("meet(-1, 0)", x.meet(-1, 0), NONE);
    LoanVans y = of("branch a; branch b; van 1 a b; van 1 b a;");
    due("meet(0, 1): never", y.meet(0, 1), -2);
    LoanVans z = of("branch a; branch b; branch c; van 1 a a a a a a a b; van 1 c c c c c c b;");
    due("meet(0, 1)", z.meet(0, 1), 55);
    z.days(56);
    due("meet(0, 1)", z.meet(0, 1), 111);
  }

  private static void every() {
    LoanVans x = of("branch a; branch b; branch c; van 1 a b; van 2 a a b; van 1 b a b a a b b b;");
    due("every(0, 0)", x.every(0, 0), 2);
    due("every(1, 0)", x.every(1, 0), 2);
    due("every(1, 1)", x.every(1, 1), 3);
    due("every(2, 0)", x.every(2, 0), 5);
    due("every(2, 1)", x.every(2, 1), 3);
    due("every(0, 2)", x.every(0, 2), -2);
    due("every(3, 0)", x.every(3, 0), NONE);
    due("every(0, 3)", x.every(0, 3), NONE);
    due("every(-1, -1)", x.every(-1, -1), NONE);
  }

  private static void farthest() {
    LoanVans x = town(0);
    int[][] want = {{2, 4}, {0, 2}, {1, 3}};
    for (int from = 0; from < 3; from++) {
      due("farthest(" + from + ", 0)", x.farthest(from, 0), want[from][0]);
      due("farthest(" + from + ", 1)", x.farthest(from, 1), want[from][1]);
    }
    due("farthest(0, 2)", x.farthest(0, 2), NONE);
    due("farthest(0, -1)", x.farthest(0, -1), NONE);
    due("farthest(3, 0)", x.farthest(3, 0), NONE);
    LoanVans y = of("branch a; branch b; branch c; van 1 a b; van 1 a c;");
    y.days(4);
    due("farthest(0, 0): of like ones the least", y.farthest(0, 0), 1);
    due("farthest(0, 1)", y.farthest(0, 1), 5);
    LoanVans z = of("branch a; branch b;");
    due("farthest(1, 0): no other one", z.farthest(1, 0), 1);
  }

  private static void longest() {
    LoanVans x = town(1);
    due("longest(0)", x.longest(0), -2);
    due("longest(1)", x.longest(1), -2);
    due("longest(2)", x.longest(2), NONE);
    due("longest(-1)", x.longest(-1), NONE);
    x.hold(0, 0);
    x.hold(1, 0);
    x.days(2);
    x.hold(0, 0);
    due("longest(0)", x.longest(0), 3);
    due("longest(1)", x.longest(1), 2);
    x.cancel(3);
    x.cancel(4);
    due("longest(0)", x.longest(0), 5);
    due("longest(1)", x.longest(1), 0);
  }

  private static void lender() {
    LoanVans x = town(0);
    due("lender(0)", x.lender(0), 0);
    due("lender(1)", x.lender(1), 0);
    x.days(6);
    due("lender(0)", x.lender(0), 0);
    due("lender(1)", x.lender(1), 1);
    due("lender(2)", x.lender(2), NONE);
    due("lender(-1)", x.lender(-1), NONE);
    LoanVans y = new LoanVans();
    due("lender(1)", y.lender(1), -2);
    due("lender(2)", y.lender(2), NONE);
    LoanVans z = of("branch a; branch b; title t 1; item t b; hold a t; van 1 a b;");
    z.days(5);
    due("lender(0)", z.lender(0), 1);
  }

  private static void nextDue() {
    LoanVans x = town(2);
    due("nextDue(0)", x.nextDue(0), -2);
    due("nextDue(1)", x.nextDue(1), -2);
    due("nextDue(2)", x.nextDue(2), NONE);
    x.days(3);
    due("nextDue(0)", x.nextDue(0), 2);
    due("nextDue(1)", x.nextDue(1), 6);
    x.days(2);
    due("nextDue(0)", x.nextDue(0), 0);
    due("nextDue(-1)", x.nextDue(-1), NONE);
    LoanVans y = of("branch a; title t 4; title u 4; item t a; item u a; hold a u; hold a t;");
    y.days(1);
    due("nextDue(0): of like ones the least", y.nextDue(0), 0);
  }

  private static void path() {
    LoanVans x = town(0);
    int[][] want = {{0, 0, 1, 1}, {0, 1, 0, 2}, {0, 2, 1, 3}, {1, 3, 2, 4}};
    for (int k = 0; k < 4; k++) {
      for (int what = 0; what < 4; what++) {
        due("path(0, 2, 0, " + k + ", " + what + ")", x.path(0, 2, 0, k, what), want[k][what]);
      }
    }
    due("path(0, 2, 0, 4, 0)", x.path(0, 2, 0, 4, 0), -2);
    due("path(0, 2, 0, 2147483647, 0)", x.path(0, 2, 0, 2147483647, 0), -2);
    due("path(0, 0, 0, 0, 0)", x.path(0, 0, 0, 0, 0), -2);
    due("path(0, 2, 0, -1, 0)", x.path(0, 2, 0, -1, 0), NONE);
    due("path(0, 2, 0, 4, 4)", x.path(0, 2, 0, 4, 4), NONE);
    due("path(0, 2, 0, 0, -1)", x.path(0, 2, 0, 0, -1), NONE);
    due("path(0, 2, 10000, 0, 0)", x.path(0, 2, 10000, 0, 0), NONE);
    due("path(3, 2, 0, 0, 0)", x.path(3, 2, 0, 0, 0), NONE);
    due("path(0, 3, 0, 0, 0)", x.path(0, 3, 0, 0, 0), NONE);
    LoanVans y = of("branch a; branch b; van 1 a a;");
    due("path(0, 1, 0, 0, 0)", y.path(0, 1, 0, 0, 0), -2);
  }

  private static void reach() {
    LoanVans x = town(0);
    int[] want = {1, 2, 2, 2, 3};
    for (int n = 0; n < want.length; n++) {
      due("reach(0, 0, " + n + ")", x.reach(0, 0, n), want[n]);
    }
    due("reach(0, 9999, 40)", x.reach(0, 9999, 40), 3);
    due("reach(0, 10000, 40)", x.reach(0, 10000, 40), NONE);
    due("reach(0, -1, 40)", x.reach(0, -1, 40), NONE);
    due("reach(0, 0, 41)", x.reach(0, 0, 41), NONE);
    due("reach(0, 0, -1)", x.reach(0, 0, -1), NONE);
    due("reach(3, 0, 0)", x.reach(3, 0, 0), NONE);
    LoanVans y = of("branch a; branch b; branch c; van 1 a b;");
    due("reach(0, 0, 40)", y.reach(0, 0, 40), 2);
  }

  private static void center() {
    LoanVans x = town(0);
    due("center(0)", x.center(0), 1);
    due("center(1)", x.center(1), 3);
    due("center(2)", x.center(2), NONE);
    due("center(-1)", x.center(-1), NONE);
    due("no branches", new LoanVans().center(1), -2);
    x.days(2);
    due("center(0) on day 2", x.center(0), 0);
    due("center(1) on day 2", x.center(1), 3);
    LoanVans y = of("branch a; branch b; branch c;");
    due("center(0): of like ones the least", y.center(0), 0);
    due("center(1)", y.center(1), 82);
  }

  private static void ifStop() {
    LoanVans x = town(0);
    due("ifStop(0, 0, 1, 2)", x.ifStop(0, 0, 1, 2), 4);
    due("ifStop(0, 0, 1, 1): as it is", x.ifStop(0, 0, 1, 1), 2);
    due("ifStop(1, 1, 1, 0)", x.ifStop(1, 1, 1, 0), -2);
    due("ifStop(3, 0, 0, 0)", x.ifStop(3, 0, 0, 0), NONE);
    due("ifStop(0, 2, 0, 0)", x.ifStop(0, 2, 0, 0), NONE);
    due("ifStop(0, 0, 2, 0)", x.ifStop(0, 0, 2, 0), NONE);
    due("ifStop(0, 0, -1, 0)", x.ifStop(0, 0, -1, 0), NONE);
    due("ifStop(0, 0, 0, 3)", x.ifStop(0, 0, 0, 3), NONE);
    x.days(1);
    due("ifStop(0, 0, 1, 2): who is in it leaves it as was meant", x.ifStop(0, 0, 1, 2), 2);
    due("stop(0, 1) stays", x.stop(0, 1), 1);
  }

  private static void ifRoom() {
    LoanVans x = of("branch a; branch b; title t 20; item t a; item t a; van 1 a b; hold b t; hold b t;");
    due("served(3)", x.served(3), 1);
    due("ifRoom(3, 0, 2)", x.ifRoom(3, 0, 2), 2);
    due("ifRoom(60, 0, 0)", x.ifRoom(60, 0, 0), 0);
    due("ifRoom(0, 0, 9)", x.ifRoom(0, 0, 9), 0);
    due("ifRoom(3, 0, 10)", x.ifRoom(3, 0, 10), NONE);
    due("ifRoom(3, 0, -1)", x.ifRoom(3, 0, -1), NONE);
    due("ifRoom(61, 0, 1)", x.ifRoom(61, 0, 1), NONE);
    due("ifRoom(-1, 0, 1)", x.ifRoom(-1, 0, 1), NONE);
    due("ifRoom(3, 1, 1)", x.ifRoom(3, 1, 1), NONE);
    x.days(1);
    due("ifRoom(60, 0, 0): who is in it leaves it", x.ifRoom(60, 0, 0), 1);
    due("van(0, 0) stays", x.van(0, 0), 1);
  }

  private static void astray() {
    LoanVans x = town(0);
    int[] want = {0, 2, 2, 2};
    for (int n = 0; n < want.length; n++) {
      due("astray(" + n + ")", x.astray(n), want[n]);
    }
    due("astray(60)", x.astray(60), 0);
    due("astray(61)", x.astray(61), NONE);
    due("astray(-1)", x.astray(-1), NONE);
    x.days(3);
    due("astray(0)", x.astray(0), 2);
  }

  private static void waited() {
    LoanVans x = town(4);
    due("waited(0): lent", x.waited(0), 2);
    due("waited(1): ready", x.waited(1), 4);
    x.hold(0, 0);
    x.days(2);
    due("waited(3): open", x.waited(3), 2);
    due("waited(2): over", x.waited(2), 4);
    x.cancel(3);
    due("waited(3): cancelled", x.waited(3), -2);
    due("waited(4)", x.waited(4), NONE);
    due("waited(-1)", x.waited(-1), NONE);
  }

  private static void meanWait() {
    LoanVans x = town(2);
    due("meanWait()", x.meanWait(), -2);
    x.days(1);
    due("meanWait()", x.meanWait(), 200);
    x.days(3);
    due("meanWait()", x.meanWait(), 366);
  }

  private static void busiest() {
    LoanVans x = town(1);
    due("busiest(0): of like ones the least", x.busiest(0), 0);
    due("busiest(1)", x.busiest(1), 1);
    x.days(3);
    due("busiest(0)", x.busiest(0), 1);
    due("busiest(1)", x.busiest(1), 3);
    due("busiest(2)", x.busiest(2), NONE);
    due("busiest(-1)", x.busiest(-1), NONE);
    due("no vans", of("branch a;").busiest(0), -2);
    due("no vans", of("branch a;").busiest(2), NONE);
  }

  private static void ifClosed() {
    LoanVans x = town(0);
    due("ifClosed(0, 1, 2)", x.ifClosed(0, 1, 2), 3);
    due("ifClosed(2, 0, -1)", x.ifClosed(2, 0, -1), 3);
    due("ifClosed(2, 0, 4)", x.ifClosed(2, 0, 4), 3);
    due("ifClosed(2, 0, 3)", x.ifClosed(2, 0, 3), 4);
    due("ifClosed(2, 0, 6)", x.ifClosed(2, 0, 6), 3);
    due("ifClosed(2, 0, 0)", x.ifClosed(2, 0, 0), 3);
    due("ifClosed(2, 0, 7)", x.ifClosed(2, 0, 7), NONE);
    due("ifClosed(2, 0, -2)", x.ifClosed(2, 0, -2), NONE);
    due("ifClosed(3, 0, 0)", x.ifClosed(3, 0, 0), NONE);
    due("ifClosed(0, 3, 0)", x.ifClosed(0, 3, 0), NONE);
    due("branch(0, 0) stays", x.branch(0, 0), 3);
    LoanVans y = of("branch a; title t 3; item t a; hold a t; hold a t;");
    due("due on another day", y.ifClosed(1, 0, 3), 4);
    y.days(1);
    due("due stays, but it is shut then", y.ifClosed(1, 0, 3), 4);
    due("due stays", y.lentOn(1), 3);
    due("no item", of("branch a; title t 1; hold a t;").ifClosed(0, 0, 1), -2);
  }

  private static void ifPeriod() {
    LoanVans x = of(TOWN + "hold a t;");
    due("lentOn(3)", x.lentOn(3), 9);
    due("ifPeriod(3, 0, 1)", x.ifPeriod(3, 0, 1), 5);
    due("ifPeriod(3, 1, 1)", x.ifPeriod(3, 1, 1), 9);
    due("ifPeriod(3, 0, 60)", x.ifPeriod(3, 0, 60), -2);
    due("ifPeriod(3, 0, 0)", x.ifPeriod(3, 0, 0), NONE);
    due("ifPeriod(3, 0, 61)", x.ifPeriod(3, 0, 61), NONE);
    due("ifPeriod(4, 0, 1)", x.ifPeriod(4, 0, 1), NONE);
    due("ifPeriod(3, 2, 1)", x.ifPeriod(3, 2, 1), NONE);
    x.days(3);
    due("ifPeriod(3, 0, 60): due of what is lent stays", x.ifPeriod(3, 0, 60), 9);
    due("title(0, 0) stays", x.title(0, 0), 5);
  }

  private static void visits() {
    LoanVans x = town(0);
    due("visits(0, 0)", x.visits(0, 0), 1);
    due("visits(0, 1)", x.visits(0, 1), 1);
    due("visits(0, 2)", x.visits(0, 2), 3);
    due("visits(2, 3)", x.visits(2, 3), 3);
    due("visits(1, 60)", x.visits(1, 60), 5);
    due("visits(0, 61)", x.visits(0, 61), NONE);
    due("visits(0, -1)", x.visits(0, -1), NONE);
    due("visits(3, 0)", x.visits(3, 0), NONE);
    x.days(1);
    due("visits(0, 0): in a van", x.visits(0, 0), 0);
  }

  private static void thereAndBack() {
    LoanVans x = town(0);
    due("thereAndBack(0, 2, 0)", x.thereAndBack(0, 2, 0), 5);
    due("thereAndBack(0, 1, 0)", x.thereAndBack(0, 1, 0), 2);
    due("thereAndBack(0, 1, 9999)", x.thereAndBack(0, 1, 9999), 3);
    due("thereAndBack(2, 2, 9)", x.thereAndBack(2, 2, 9), 0);
    due("thereAndBack(0, 1, 10000)", x.thereAndBack(0, 1, 10000), NONE);
    due("thereAndBack(0, 1, -1)", x.thereAndBack(0, 1, -1), NONE);
    due("thereAndBack(0, 3, 0)", x.thereAndBack(0, 3, 0), NONE);
    due("thereAndBack(3, 0, 0)", x.thereAndBack(3, 0, 0), NONE);
    due("no way", of("branch a; branch b;").thereAndBack(0, 1, 0), -2);
  }

  private static void bestDay() {
    LoanVans x = town(0);
    due("bestDay(0, 2, 1)", x.bestDay(0, 2, 1), 0);
    due("bestDay(0, 2, 2)", x.bestDay(0, 2, 2), 1);
    due("bestDay(0, 2, 60)", x.bestDay(0, 2, 60), 2);
    due("bestDay(0, 2, 0)", x.bestDay(0, 2, 0), NONE);
    due("bestDay(0, 2, 61)", x.bestDay(0, 2, 61), NONE);
    due("bestDay(0, 3, 1)", x.bestDay(0, 3, 1), NONE);
    due("bestDay(-1, 0, 1)", x.bestDay(-1, 0, 1), NONE);
    x.days(3);
    due("bestDay(0, 2, 9)", x.bestDay(0, 2, 9), 5);
    due("bestDay(1, 1, 9)", x.bestDay(1, 1, 9), 3);
    due("no way", of("branch a; branch b;").bestDay(0, 1, 60), -2);
  }

  private static void log() {
    LoanVans x = town(6);
    int[][] want = {{0, 0, 1, 2}, {2, 2, 0, 4}, {1, 1, 2, 5}};
    for (int k = 0; k < 3; k++) {
      for (int what = 0; what < 4; what++) {
        due("log(" + k + ", " + what + ")", x.log(k, what), want[k][what]);
      }
    }
    due("log(3, 0)", x.log(3, 0), -2);
    due("log(3, 4)", x.log(3, 4), NONE);
    due("log(0, -1)", x.log(0, -1), NONE);
    due("log(-1, 0)", x.log(-1, 0), NONE);
  }

  private static void ranked() {
    LoanVans x = of(TOWN + "branch d;");
    x.days(6);
    int[] want = {0, 1, 3, 2, -2};
    for (int k = 0; k < want.length; k++) {
      due("ranked(" + k + ")", x.ranked(k), want[k]);
    }
    due("ranked(-1)", x.ranked(-1), NONE);
    due("no branches", new LoanVans().ranked(0), -2);
  }

  private static void counts() {
    LoanVans x = town(0);
    int[] first = {15, 3, 2, 3, 2, 3, 0, 2, 1, 0, 3, 0, 0, 0, NONE};
    for (int what = 0; what < first.length; what++) {
      due("count(" + what + ")", x.count(what), first[what]);
    }
    due("count(-1)", x.count(-1), NONE);
    x.days(3);
    x.hold(2, 1);
    x.feed(0, 0, 0, 0, 0);
    int[] then = {15, 3, 2, 3, 2, 4, 3, 2, 1, 2, 1, 2, 1, 20};
    for (int what = 0; what < then.length; what++) {
      due("count(" + what + ")", x.count(what), then[what]);
    }
  }

  private static void test(int number) {
    promise = number;
    switch (number) {
      case 1: newObject(); break;
      case 2: tape(); break;
      case 3: texts(); break;
      case 4: faults(); break;
      case 5: branches(); break;
      case 6: titles(); break;
      case 7: items(); break;
      case 8: holds(); break;
      case 9: vans(); break;
      case 10: stops(); break;
      case 11: moreHolds(); break;
      case 12: cancelled(); break;
      case 13: recalled(); break;
      case 14: renewed(); break;
      case 15: goneDays(); break;
      case 16: undone(); break;
      case 17: balances(); break;
      case 18: loanCounts(); break;
      case 19: queues(); break;
      case 20: inVans(); break;
      case 21: waiting(); order(); break;
      case 22: arrivals(); break;
      case 23: firstLegs(); break;
      case 24: legCounts(); break;
      case 25: gifts(); break;
      case 26: lentOn(); break;
      case 27: ifHold(); break;
      case 28: ifCancelled(); break;
      case 29: ifNoVan(); break;
      case 30: where(); break;
      case 31: served(); break;
      case 32: meet(); break;
      case 33: every(); break;
      case 34: farthest(); break;
      case 35: longest(); break;
      case 36: lender(); break;
      case 37: nextDue(); break;
      case 38: path(); break;
      case 39: reach(); break;
      case 40: center(); break;
      case 41: ifStop(); break;
      case 42: ifRoom(); break;
      case 43: astray(); break;
      case 44: waited(); break;
      case 45: meanWait(); break;
      case 46: busiest(); break;
      case 47: ifClosed(); break;
      case 48: ifPeriod(); break;
      case 49: visits(); break;
      case 50: thereAndBack(); break;
      case 51: bestDay(); break;
      case 52: log(); break;
      case 53: ranked(); break;
      default: counts(); break;
    }
  }

  public static void main(String[] args) {
    for (int number = 1; number <= 54; number++) {
      test(number);
    }
    System.out.println(wrong == 0 ? "all promises are kept" : wrong + " answers are not as due");
    if (wrong != 0) {
      System.exit(1);
    }
  }
}
