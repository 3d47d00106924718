/** The edges of promises 5 to 21 and 52 to 54: what there is, what can be done, who waits, what was. */
public final class EdgeAnswerTest {
  private static final int NONE = Edge.NONE;
  private static final String AB = "branch a; branch b; ";
  private static final String ABC = "branch a; branch b; branch c; ";
  /** Ten items go from a to b by a van for nine. */
  private static final String TEN = AB + "title t 9;" + Edge.times("item t a;", 10) + Edge.times("hold b t;", 10) + "van 9 a b;";

  private static void says(String where, String words) {
    Edge.says(where, words);
  }

  private static void due(String call, int got, int want) {
    Edge.due(call, got, want);
  }

  private static LoanVans of(String s) {
    return Edge.of(s);
  }

  private static LoanVans of(String s, int days) {
    return Edge.of(s, days);
  }

  // ---- promise 5

  static void promise05_theWeekdayMinus2None() {
    says("promise05", "what 0 the WEEKDAY on which it is SHUT (-2: none)");
    due("none", of("branch a;").branch(0, 0), -2);
    due("the least", of("branch a closed 0;").branch(0, 0), 0);
    due("the greatest", of("branch a closed 6;").branch(0, 0), 6);
    LoanVans x = of("branch a closed 6; branch b; branch c closed 0;");
    due("one behind one that is shut", x.branch(1, 0), -2);
    Edge.tell(x, "branch a;");
    due("anew", x.branch(0, 0), -2);
  }

  static void promise05_itemsAtItLentAtItAreOutHomeOpenHolds() {
    says("promise05", "1 how many ITEMS are at it (not LENT), 2 how many LENT at it are out, 3 how many ITEMS have it as HOME, 4 its OPEN HOLDS.");
    LoanVans none = of("branch a;");
    for (int what = 1; what <= 4; what++) {
      due("nothing there, what " + what, none.branch(0, what), 0);
    }
    LoanVans x = of(Edge.FULL);
    int[][] want = {{23, 0, 23, 39}, {0, 23, 23, 16}, {7, 16, 23, 0}, {23, 0, 23, 0}};
    for (int day = 0; day < 4; day++) {
      for (int what = 1; what <= 4; what++) {
        due("branch(0, " + what + ") on day " + day, x.branch(0, what), want[day][what - 1]);
      }
      x.days(1);
    }
    due("branch(7, 2)", x.branch(7, 2), 1);
    LoanVans y = of(AB + "title t 9; item t a; hold b t; hold b t; van 1 a b;", 1);
    due("one in a van is at none", y.branch(0, 1) + y.branch(1, 1), 0);
    due("a ready hold isn't open", y.branch(1, 4), 1);
    y.cancel(1);
    due("a cancelled hold isn't open", y.branch(1, 4), 0);
    y.days(2);
    due("lent at another one than its home", 10 * y.branch(0, 2) + y.branch(1, 2), 1);
    due("its home is as it was", 10 * y.branch(0, 3) + y.branch(1, 3), 10);
  }

  static void promise05_noSuchOneNoSuchWhat() {
    says("promise05", "IndexOutOfBoundsException: no such one. NoSuchElementException: no such what.");
    LoanVans x = of(Edge.FULL);
    Edge.range("branch(b, 0)", b -> x.branch(b, 0), 0, -2, 7, 6, Edge.NO_INDEX);
    Edge.range("branch(0, what)", what -> x.branch(0, what), 0, -2, 4, 39, Edge.NO_ELEMENT);
  }

  // ---- promise 6

  static void promise06_periodItemsFreeOnesOpenHolds() {
    says("promise06", "what 0 PERIOD, 1 how many ITEMS, 2 FREE ones, 3 OPEN HOLDS.");
    LoanVans none = of("title t 60;");
    int[] nothing = {60, 0, 0, 0};
    for (int what = 0; what < 4; what++) {
      due("nothing there, what " + what, none.title(0, what), nothing[what]);
    }
    LoanVans x = of(Edge.FULL);
    int[][] want = {{1, 23, 23, 39}, {1, 23, 0, 16}, {1, 23, 7, 0}, {1, 23, 23, 0}};
    for (int day = 0; day < 4; day++) {
      for (int what = 0; what < 4; what++) {
        due("title(0, " + what + ") on day " + day, x.title(0, what), want[day][what]);
      }
      x.days(1);
    }
    due("title(5, 2)", x.title(5, 2), 0);
  }

  static void promise06_noSuchOneNoSuchWhat() {
    says("promise06", "IndexOutOfBoundsException: no such one. NoSuchElementException: no such what.");
    LoanVans x = of(Edge.FULL);
    Edge.range("title(t, 0)", t -> x.title(t, 0), 0, 1, 5, 60, Edge.NO_INDEX);
    Edge.range("title(0, what)", what -> x.title(0, what), 0, 1, 3, 39, Edge.NO_ELEMENT);
  }

  // ---- promise 7

  private static void row(LoanVans x, int i, int... want) {
    for (int what = 0; what < want.length; what++) {
      due("item(" + i + ", " + what + ") on day " + x.count(6), x.item(i, what), want[what]);
    }
  }

  static void promise07_eachWhatWithout() {
    says("promise07", "4 its HOLD (-2: none), 5 DUE (-2: not LENT), 6 how often RENEWED (0: not LENT), 7 the BRANCH where its LEG ends (-2: in no VAN), 8 the DAY on which it does (-2), 9 how often it was LENT.");
    LoanVans x = of(AB + "title u 1; title t 3; item u a; item t b; van 1 b a;");
    row(x, 1, 1, 1, 0, 1, -2, -2, 0, -2, -2, 0);
    x.hold(0, 1);
    row(x, 1, 1, 1, 0, 1, -2, -2, 0, -2, -2, 0);
    x.days(1);
    row(x, 1, 1, 1, 1, 0, 0, -2, 0, 0, 1, 0);
    x.days(1);
    row(x, 1, 1, 1, 0, 0, 0, -2, 0, -2, -2, 0);
    x.days(1);
    row(x, 1, 1, 1, 2, 0, 0, 5, 0, -2, -2, 1);
    x.renew(1);
    row(x, 1, 1, 1, 2, 0, 0, 8, 1, -2, -2, 1);
    x.days(6);
    row(x, 1, 1, 1, 0, 0, -2, -2, 0, -2, -2, 1);
    x.days(1);
    row(x, 1, 1, 1, 1, 0, -2, -2, 0, 1, 10, 1);
    x.days(1);
    row(x, 1, 1, 1, 0, 1, -2, -2, 0, -2, -2, 1);
    x.hold(1, 1);
    x.days(1);
    row(x, 1, 1, 1, 2, 1, 1, 14, 0, -2, -2, 2);
  }

  static void promise07_noSuchOneNoSuchWhat() {
    says("promise07", "IndexOutOfBoundsException: no such one. NoSuchElementException: no such what.");
    LoanVans x = of(Edge.FULL);
    Edge.range("item(i, 0)", i -> x.item(i, 0), 0, 0, 23, 5, Edge.NO_INDEX);
    Edge.range("item(23, what)", what -> x.item(23, what), 0, 5, 9, 0, Edge.NO_ELEMENT);
  }

  // ---- promise 8

  private static void holdRow(LoanVans x, int h, int... want) {
    for (int what = 0; what < want.length; what++) {
      due("holdOf(" + h + ", " + what + ") on day " + x.count(6), x.holdOf(h, what), want[what]);
    }
  }

  static void promise08_eachStage() {
    says("promise08", "2 0 OPEN, 1 READY, 2 LENT, 3 OVER, 4 CANCELLED, 3 the ITEM it has or had last (-2: none), 4 the DAY on which it was told, 5 the DAY on which it was LENT (-2: not).");
    LoanVans x = of(AB + "title u 1; title t 3; item u a; item t b; van 1 b a;", 2);
    x.hold(0, 1);
    x.hold(0, 1);
    holdRow(x, 0, 0, 1, 0, -2, 2, -2);
    x.days(1);
    holdRow(x, 0, 0, 1, 1, 1, 2, -2);
    x.days(2);
    holdRow(x, 0, 0, 1, 2, 1, 2, 4);
    holdRow(x, 1, 0, 1, 0, -2, 2, -2);
    x.cancel(1);
    holdRow(x, 1, 0, 1, 4, -2, 2, -2);
    x.days(3);
    holdRow(x, 0, 0, 1, 3, 1, 2, 4);
    x.hold(0, 1);
    x.days(2);
    holdRow(x, 2, 0, 1, 1, 1, 8, -2);
    x.cancel(2);
    holdRow(x, 2, 0, 1, 4, 1, 8, -2);
  }

  static void promise08_noSuchOneNoSuchWhat() {
    says("promise08", "IndexOutOfBoundsException: no such one. NoSuchElementException: no such what.");
    LoanVans x = of(Edge.FULL);
    Edge.range("holdOf(h, 0)", h -> x.holdOf(h, 0), 0, 0, 39, 7, Edge.NO_INDEX);
    Edge.range("holdOf(39, what)", what -> x.holdOf(39, what), 0, 7, 5, -2, Edge.NO_ELEMENT);
    LoanVans y = of("branch a; title t 1;");
    due("none yet", Edge.thrown(() -> y.holdOf(0, 0)), Edge.NO_INDEX);
    y.hold(0, 0);
    due("one", y.holdOf(0, 0), 0);
    due("no second one", Edge.thrown(() -> y.holdOf(1, 0)), Edge.NO_INDEX);
    y.undo();
    due("none again", Edge.thrown(() -> y.holdOf(0, 0)), Edge.NO_INDEX);
  }

  // ---- promises 9 and 10

  static void promise09_noSuchOnes() {
    says("promise09", "how often ITEMS boarded it; NONE: no such ones.");
    LoanVans x = of(Edge.FULL);
    Edge.range("van(v, 0)", v -> x.van(v, 0), 0, 1, 3, 9, NONE);
    Edge.range("van(3, what)", what -> x.van(3, what), 0, 9, 4, 0, NONE);
    LoanVans none = of(AB);
    due("none there", none.van(0, 0), NONE);
  }

  static void promise09_asManyAsThereIsRoom() {
    says("promise09", "what 0 ROOM, 1 how many STOPS, 2 at which BRANCH it is this DAY, 3 how many ITEMS are in it, 4 how often ITEMS boarded it");
    LoanVans x = of(TEN);
    int[][] want = {{9, 2, 0, 0, 0}, {9, 2, 1, 9, 9}, {9, 2, 0, 0, 9}, {9, 2, 1, 1, 10}, {9, 2, 0, 0, 10}};
    for (int day = 0; day < 5; day++) {
      for (int what = 0; what < 5; what++) {
        due("van(0, " + what + ") on day " + day, x.van(0, what), want[day][what]);
      }
      x.days(1);
    }
  }

  static void promise10_kFrom0OnNoSuchOnes() {
    says("promise10", "The BRANCH of the k-th STOP (k from 0 on) of a VAN; NONE: no such ones.");
    LoanVans x = of(Edge.FULL);
    Edge.range("stop(v, 1)", v -> x.stop(v, 1), 0, 1, 3, 1, NONE);
    Edge.range("stop(3, k)", k -> x.stop(3, k), 0, 0, 7, 7, NONE);
    Edge.range("stop(0, k)", k -> x.stop(0, k), 0, 0, 1, 1, NONE);
    Edge.tell(x, "branch a; van 1 a a a;");
    due("of an older text", x.stop(0, 3), NONE);
    due("of an older text", x.stop(1, 0), NONE);
    due("none there", of(AB).stop(0, 0), NONE);
  }

  // ---- promise 11

  static void promise11_itsNumber() {
    says("promise11", "A HOLD more: its number");
    LoanVans x = of("branch a; title t 1;");
    due("the first", x.hold(0, 0), 0);
    due("the next", x.hold(0, 0), 1);
    x.cancel(0);
    due("a cancelled one keeps its number", x.hold(0, 0), 2);
    x.undo();
    due("an undone one doesn't", x.hold(0, 0), 2);
  }

  static void promise11_minus2ThereAre40() {
    says("promise11", "-2: there are 40");
    LoanVans x = of("branch a; title t 1;" + Edge.times("hold a t;", 39));
    LoanVans twin = of("branch a; title t 1;" + Edge.times("hold a t;", 39));
    due("the fortieth", x.hold(0, 0), 39);
    due("one more", x.hold(0, 0), -2);
    due("one more", x.hold(0, 0), -2);
    due("count(5)", x.count(5), 40);
    due("count(9)", x.count(9), 1);
    x.cancel(7);
    due("a cancelled one is one", x.hold(0, 0), -2);
    x.undo();
    x.undo();
    due("a forty-first undone", x.count(5), 39);
    Edge.still("hold", x, twin, y -> y.hold(1, 0));
    LoanVans full = of(Edge.FULL, 1);
    due("told by the text, lent", full.hold(7, 5), -2);
    Edge.same("hold", full, of(Edge.FULL, 1));
  }

  static void promise11_noneNoSuchBranchTitle() {
    says("promise11", "NONE: no such BRANCH, TITLE.");
    LoanVans x = Edge.town(0);
    Edge.range("hold(b, 0)", b -> x.hold(b, 0), 0, 3, 2, 4, NONE);
    Edge.range("hold(0, t)", t -> x.hold(0, t), 0, 5, 1, 6, NONE);
    due("count(9)", x.count(9), 4);
    LoanVans y = of(AB);
    Edge.still("hold of no title", y, of(AB), z -> due("hold(0, 0)", z.hold(0, 0), NONE));
  }

  // ---- promise 12

  static void promise12_falseNoSuchOneNeitherOpenNorReady() {
    says("promise12", "CANCELLED: true; false: no such one, it is neither OPEN nor READY.");
    LoanVans x = Edge.town(0);
    for (int h : new int[] {-1, 3, 4, 40, Edge.MIN, Edge.MAX}) {
      Edge.due("cancel(" + h + ")", x.cancel(h), false);
    }
    Edge.due("open", x.cancel(2), true);
    due("holdOf(2, 2)", x.holdOf(2, 2), 4);
    Edge.due("cancelled", x.cancel(2), false);
    x.days(1);
    Edge.due("ready", x.cancel(1), true);
    x.days(2);
    LoanVans twin = Edge.town(0);
    twin.cancel(2);
    twin.days(1);
    twin.cancel(1);
    twin.days(2);
    Edge.due("lent", x.cancel(0), false);
    due("lent", x.holdOf(0, 2), 2);
    x.days(5);
    twin.days(5);
    Edge.due("over", x.cancel(0), false);
    due("over", x.holdOf(0, 2), 3);
    Edge.same("cancel", x, twin);
  }

  static void promise12_theGreatestNumber() {
    says("promise12", "CANCELLED: true; false: no such one");
    LoanVans x = of(Edge.FULL);
    Edge.due("cancel(0)", x.cancel(0), true);
    Edge.due("cancel(39)", x.cancel(39), true);
    Edge.due("cancel(40)", x.cancel(40), false);
    due("count(10)", x.count(10), 38);
  }

  // ---- promises 13 and 14

  static void promise13_dueThenAlsoWhereItStays() {
    says("promise13", "RECALLED: DUE then (also where it stays)");
    LoanVans x = of("branch a; title t 4; item t a; hold a t; grace 3;", 1);
    due("it stays", x.recall(0), 4);
    due("item(0, 5)", x.item(0, 5), 4);
    Edge.same("recall", x, of("branch a; title t 4; item t a; hold a t; grace 3;", 1));
    LoanVans y = of("branch a; title t 5; item t a; hold a t; grace 3;", 1);
    due("a day ahead", y.recall(0), 4);
    due("item(0, 5)", y.item(0, 5), 4);
    y.days(3);
    due("the day ahead of that it is out", y.item(0, 2), 2);
    y.days(1);
    due("that day it comes back", y.item(0, 2), 0);
  }

  static void promise13_notLentNoSuchItem() {
    says("promise13", "-2: it isn't LENT; NONE: no such ITEM.");
    LoanVans x = Edge.town(0);
    due("at a branch", x.recall(0), -2);
    x.days(1);
    due("in a van", x.recall(0), -2);
    due("ready", x.recall(1), -2);
    x.days(2);
    due("lent", x.recall(0), 5);
    x.days(3);
    due("back", x.recall(0), -2);
    LoanVans full = of(Edge.FULL, 1);
    LoanVans twin = of(Edge.FULL, 1);
    Edge.beyond("recall", full::recall, 0, 23, NONE);
    due("the greatest", full.recall(23), 31);
    due("the least", full.recall(0), 1);
    full.undo();
    Edge.same("recall", full, twin);
  }

  static void promise14_dueThen() {
    says("promise14", "RENEWED: DUE then");
    LoanVans x = of("branch a closed 1; title t 60; item t a; hold a t;", 2);
    due("item(0, 5)", x.item(0, 5), 60);
    due("renew(0) to a day on which it is shut", x.renew(0), 121);
    due("item(0, 5)", x.item(0, 5), 121);
    due("item(0, 6)", x.item(0, 6), 1);
    LoanVans y = of("branch a closed 1; title t 4; item t a; hold a t;", 3);
    due("from due on, not from now on", y.renew(0), 9);
    LoanVans z = of("branch a closed 6; title t 3; item t a; hold a t;", 1);
    due("from 3 on", z.renew(0), 7);
  }

  static void promise14_eachRefusal() {
    says("promise14", "-2: it isn't LENT; -3: it was renewed as often as may be; -4: a HOLD of its TITLE is OPEN; NONE: no such ITEM.");
    LoanVans x = Edge.town(0);
    due("at a branch, an open hold", x.renew(0), -2);
    x.days(1);
    due("in a van", x.renew(0), -2);
    x.days(2);
    x.hold(2, 0);
    due("an open hold", x.renew(0), -4);
    x.undo();
    due("renewed", x.renew(0), 12);
    due("as often as may be", x.renew(0), -3);
    x.hold(2, 0);
    due("as often as may be, an open hold", x.renew(0), -3);
    LoanVans full = of(Edge.FULL, 2);
    LoanVans twin = of(Edge.FULL, 2);
    Edge.beyond("renew", full::renew, 0, 23, NONE);
    due("back", full.renew(22), -2);
    due("the least", full.renew(0), 3);
    due("the greatest", full.renew(23), 120);
    full.undo();
    full.undo();
    Edge.same("renew", full, twin);
  }

  // ---- promises 15 and 16

  static void promise15_daysOneTo60() {
    says("promise15", "So many DAYS (1 .. 60) go by: which DAY it is; NONE: no such number.");
    LoanVans x = Edge.town(0);
    LoanVans twin = Edge.town(0);
    Edge.beyond("days", x::days, 1, 60, NONE);
    Edge.same("days", x, twin);
    LoanVans y = Edge.town(0);
    due("days(1)", y.days(1), 1);
    due("days(60)", y.days(60), 61);
    due("days(59)", y.days(59), 120);
    LoanVans one = Edge.town(0);
    for (int k = 0; k < 60; k++) {
      one.days(1);
    }
    Edge.due("sixty at once are as one by one", Edge.allNow(one).equals(Edge.allNow(of(Edge.TOWN, 60))), true);
  }

  static void promise16_howManyMoreCanBe() {
    says("promise16", "The latest that can be undone is undone: how many more can be; NONE: none.");
    LoanVans x = Edge.town(0);
    due("none yet", x.undo(), NONE);
    x.hold(0, 0);
    due("one", x.undo(), 0);
    due("none", x.undo(), NONE);
    due("none", x.undo(), NONE);
    Edge.same("undo", x, Edge.town(0));
    LoanVans y = Edge.town(0);
    for (int k = 0; k < 12; k++) {
      y.hold(0, 0);
    }
    for (int k = 11; k >= 0; k--) {
      due("undo()", y.undo(), k);
      due("count(9)", y.count(9), k);
      due("count(5)", y.count(5), 3 + k);
    }
    due("none", y.undo(), NONE);
  }

  static void promise16_whatWasUndoneCanBeDoneAnew() {
    says("promise16", "The latest that can be undone is undone");
    LoanVans x = Edge.town(0);
    x.days(5);
    x.undo();
    x.days(5);
    Edge.same("days(5) undone and done", x, Edge.town(5));
    LoanVans y = Edge.town(5);
    y.cancel(1);
    due("lent since it was undone", y.undo() + y.days(3) + y.holdOf(1, 5), 1 + 8 + 5);
  }

  // ---- promises 17 and 18

  static void promise17_minValueNoSuchOnesOneAndTheSame() {
    says("promise17", "BALANCE of a BRANCH with another one; Integer.MIN_VALUE: no such ones, one and the same.");
    LoanVans x = of(Edge.FULL, 3);
    Edge.range("owed(a, 3)", a -> x.owed(a, 3), 0, 0, 7, 0, Edge.MIN);
    Edge.range("owed(3, b)", b -> x.owed(3, b), 0, 0, 7, 0, Edge.MIN);
    for (int b = 0; b < 8; b++) {
      due("owed(" + b + ", " + b + ")", x.owed(b, b), Edge.MIN);
    }
    LoanVans y = Edge.town(6);
    due("owed(0, 2)", y.owed(0, 2), 1);
    due("owed(2, 0)", y.owed(2, 0), -1);
    due("loans both ways", y.owed(0, 1), 0);
    due("loans at home are none", x.owed(0, 1), 0);
  }

  static void promise18_theSameTooNoSuchOnes() {
    says("promise18", "How often ITEMS of a HOME were LENT at a BRANCH (the same, too); NONE: no such ones.");
    LoanVans x = of(Edge.FULL, 3);
    Edge.range("loans(home, 0)", home -> x.loans(home, 0), 0, 39, 7, 0, NONE);
    Edge.range("loans(7, b)", b -> x.loans(7, b), 0, 0, 7, 1, NONE);
    due("none yet", of(Edge.FULL).loans(0, 0), 0);
  }

  // ---- promises 19 to 21

  static void promise19_kFrom0OnNotSoManyNoSuchOnes() {
    says("promise19", "The k-th OPEN HOLD of a TITLE (k from 0 on); -2: there are not so many; NONE: no such ones.");
    LoanVans x = of(Edge.FULL);
    due("queue(0, 0)", x.queue(0, 0), 0);
    due("queue(0, 38)", x.queue(0, 38), 38);
    due("queue(0, 39)", x.queue(0, 39), -2);
    due("queue(0, MAX)", x.queue(0, Edge.MAX), -2);
    due("queue(0, -1)", x.queue(0, -1), NONE);
    due("queue(0, MIN)", x.queue(0, Edge.MIN), NONE);
    due("of a title without", x.queue(1, 0), -2);
    Edge.range("queue(t, 0)", t -> x.queue(t, 0), 0, 0, 5, 39, NONE);
    x.cancel(0);
    x.cancel(2);
    due("cancelled ones aside", x.queue(0, 1), 3);
    x.days(1);
    due("those that have an item aside", x.queue(0, 0), 25);
    due("not so many", x.queue(0, 14), -2);
  }

  static void promise20_byNumbersKFrom0On() {
    says("promise20", "The k-th ITEM in a VAN, by numbers (k from 0 on); -2: there are not so many; NONE: no such ones.");
    LoanVans x = of(TEN, 1);
    for (int k = 0; k < 9; k++) {
      due("inVan(0, " + k + ")", x.inVan(0, k), k);
    }
    due("inVan(0, 9)", x.inVan(0, 9), -2);
    due("inVan(0, MAX)", x.inVan(0, Edge.MAX), -2);
    due("inVan(0, -1)", x.inVan(0, -1), NONE);
    due("inVan(0, MIN)", x.inVan(0, Edge.MIN), NONE);
    Edge.range("inVan(v, 0)", v -> x.inVan(v, 0), 0, 0, 0, 0, NONE);
    x.days(2);
    due("the last one of ten", x.inVan(0, 0), 9);
    LoanVans full = of(Edge.FULL);
    Edge.range("inVan(v, 0)", v -> full.inVan(v, 0), 0, -2, 3, -2, NONE);
    LoanVans y = of(AB + "title t 9; title u 9; item t a; item u a; hold b u; hold b t; van 2 a b;", 1);
    due("by numbers of items, not of holds", y.inVan(0, 0), 0);
  }

  static void promise21_inTheOrderOfD() {
    says("promise21", "The k-th ITEM at a BRANCH that has another one to go to, in the order of (d) (k from 0 on); -2: there are not so many; NONE: no such ones.");
    String ten = AB + "title t 9; title u 9;" + Edge.times("item t a;", 9) + "item u a; item u a; hold b u;" + Edge.times("hold b t;", 9) + "van 1 a b;";
    LoanVans x = of(ten, 1);
    due("the first hold's is gone", x.inVan(0, 0), 9);
    for (int k = 0; k < 9; k++) {
      due("waits(0, " + k + ")", x.waits(0, k), k);
    }
    due("waits(0, 9)", x.waits(0, 9), -2);
    due("waits(0, MAX)", x.waits(0, Edge.MAX), -2);
    due("waits(0, -1)", x.waits(0, -1), NONE);
    due("waits(0, MIN)", x.waits(0, Edge.MIN), NONE);
    Edge.range("waits(b, 0)", b -> x.waits(b, 0), 0, 0, 1, -2, NONE);
    LoanVans full = of(Edge.FULL);
    Edge.range("waits(b, 0)", b -> full.waits(b, 0), 0, -2, 7, -2, NONE);
    LoanVans y = of(AB + "title t 1; title u 9; item t a; item u b; van 1 a b; hold b t; hold b t; hold a u;", 5);
    due("a free one away from its home", y.waits(1, 0), 0);
    due("no more", y.waits(1, 1), -2);
    due("one that is lent at a", y.waits(0, 0), -2);
  }

  static void promise21_freeOnesBehindThoseOfHolds() {
    says("promise21", "in the order of (d)");
    LoanVans x = of("branch a closed 2; branch b; branch c; title t 9; title u 9; item t b; item u b; item u a; van 9 b a;"
        + "hold a t; hold a u; hold a u;", 2);
    due("those at the branch of their hold wait not", x.waits(0, 0), -2);
    x.cancel(0);
    due("a free one waits", x.waits(0, 0), 0);
    x.cancel(2);
    due("waits(0, 0)", x.waits(0, 0), 0);
    due("waits(0, 1)", x.waits(0, 1), 1);
    x.undo();
    x.hold(1, 0);
    due("an open hold has none yet", x.waits(0, 0), 0);
    x.days(1);
    due("it is its own hold's now", x.waits(0, 0), 0);
    due("none behind it", x.waits(0, 1), -2);
    due("no way to go is none of it", of(AB + "title t 1; item t a;").waits(0, 0), -2);
  }

  // ---- promises 52 to 54

  static void promise52_asTheyCameKFrom0On() {
    says("promise52", "The k-th loan of all (k from 0 on, as they came), what 0 the HOLD, 1 the ITEM, 2 the BRANCH, 3 the DAY; -2: there are not so many; NONE: no such ones.");
    LoanVans x = of(Edge.FULL);
    due("none yet", x.log(0, 0), -2);
    x.days(2);
    int[][] want = {{0, 0, 0, 0, 0}, {22, 22, 22, 0, 0}, {23, 39, 23, 7, 0}, {24, 23, 0, 0, 1}, {39, 38, 15, 0, 1}};
    for (int[] each : want) {
      for (int what = 0; what < 4; what++) {
        due("log(" + each[0] + ", " + what + ")", x.log(each[0], what), each[what + 1]);
      }
    }
    due("log(40, 0)", x.log(40, 0), -2);
    due("log(MAX, 0)", x.log(Edge.MAX, 0), -2);
    due("log(-1, 0)", x.log(-1, 0), NONE);
    due("log(MIN, 0)", x.log(Edge.MIN, 0), NONE);
    Edge.range("log(39, what)", what -> x.log(39, what), 0, 38, 3, 1, NONE);
    x.undo();
    due("undone", x.log(0, 0), -2);
    LoanVans y = Edge.town(6);
    due("as they came, not by numbers", y.log(1, 0), 2);
    y.days(9);
    due("over ones, too", y.log(0, 0), 0);
  }

  static void promise53_theMostFirstOfLikeOnesByNumbers() {
    says("promise53", "by its BALANCES with all others together, the most first, of like ones by numbers; -2: there are not so many; NONE: k below 0.");
    LoanVans x = of(Edge.FULL, 3);
    for (int k = 0; k < 8; k++) {
      due("all like, ranked(" + k + ")", x.ranked(k), k);
    }
    due("ranked(8)", x.ranked(8), -2);
    due("ranked(MAX)", x.ranked(Edge.MAX), -2);
    due("ranked(-1)", x.ranked(-1), NONE);
    due("ranked(MIN)", x.ranked(Edge.MIN), NONE);
    LoanVans y = of("branch a; branch b; branch c; branch d; title t 1; item t c; van 1 c b; hold b t;", 5);
    int[] want = {2, 0, 3, 1, -2};
    for (int k = 0; k < want.length; k++) {
      due("ranked(" + k + ")", y.ranked(k), want[k]);
    }
    due("no branches", new LoanVans().ranked(0), -2);
    due("no branches", of("title t 1;").ranked(0), -2);
  }

  static void promise54_noneForAnotherWhat() {
    says("promise54", "12 LENT ones, 13 bytes of the TAPE. NONE for another what.");
    LoanVans x = of(Edge.FULL);
    Edge.feed(x, Edge.times(" ", 900));
    Edge.range("count", x::count, 0, 84, 13, 900, NONE);
  }

  static void promise54_eachWhat() {
    says("promise54", "0 LINES, 1 BRANCHES, 2 TITLES, 3 ITEMS, 4 VANS, 5 HOLDS, 6 the DAY, 7 grace, 8 renews, 9 what can be undone, 10 OPEN HOLDS, 11 READY ones, 12 LENT ones");
    LoanVans x = of(ABC + "title t 9; title u 9; title v 9; title w 9; title x 9;" + Edge.times("item u a;", 2)
        + Edge.times("van 1 a b;", 4) + Edge.times("hold b u;", 3) + "hold a u; grace 8; renews 7;");
    x.hold(0, 0);
    x.days(2);
    x.cancel(4);
    int[] want = {20, 3, 5, 2, 4, 5, 2, 8, 7, 3, 2, 2, 0, 0};
    for (int what = 0; what < want.length; what++) {
      due("count(" + what + ")", x.count(what), want[what]);
    }
    x.days(1);
    due("count(11)", x.count(11), 1);
    due("count(12)", x.count(12), 1);
    x.days(20);
    due("over ones aside", x.count(12), 1);
    due("count(11)", x.count(11), 0);
    due("count(10)", x.count(10), 0);
  }

  public static void main(String[] args) {
    Edge.run(EdgeAnswerTest.class, "promise05", "promise06", "promise07", "promise08", "promise09", "promise10", "promise11",
        "promise12", "promise13", "promise14", "promise15", "promise16", "promise17", "promise18", "promise19", "promise20",
        "promise21", "promise52", "promise53", "promise54");
  }
}
