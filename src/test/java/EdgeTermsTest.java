/** The edges of terms 2 to 4: days, ways, holds and their order; what is foretold; what can be undone. */
public final class EdgeTermsTest {
  private static final int NONE = Edge.NONE;
  private static final String AB = "branch a; branch b; ";
  private static final String ABC = "branch a; branch b; branch c; ";

  private static void says(String where, String words) {
    Edge.says(where, words);
  }

  private static void due(String call, int got, int want) {
    Edge.due(call, got, want);
  }

  private static LoanVans of(String s) {
    return Edge.of(s);
  }

  private static LoanVans of(String s, int days) {
    return Edge.of(s, days);
  }

  // ---- terms 2: days and places

  static void terms2_day0AtFirstItsWeekdayIsItModulo7() {
    says("terms2", "DAY 0 at first; its WEEKDAY is it modulo 7.");
    due("count(6)", of(AB).count(6), 0);
    for (int shut = 0; shut < 7; shut++) {
      for (int day : new int[] {0, 5, 6, 7, 8, 13, 14, 59}) {
        LoanVans x = of("branch a closed " + shut + "; title t 1; item t a;");
        if (day > 0) {
          x.days(day);
        }
        x.hold(0, 0);
        x.days(2);
        due("shut on " + shut + ", told on day " + day, x.holdOf(0, 5), day % 7 == shut ? day + 1 : day);
      }
    }
  }

  static void terms2_aVanIsAtItsStopOfThatNumberModulo() {
    says("terms2", "A VAN is on a DAY at its STOP of that number modulo how many it has.");
    LoanVans x = of("branch a; branch b; branch c; branch d; branch e; branch f; branch g; branch h;"
        + "van 1 a b; van 1 c b a; van 1 a b c d e f g h;");
    for (int day = 0; day < 18; day++) {
      due("van(0, 2) on day " + day, x.van(0, 2), day % 2);
      due("van(1, 2) on day " + day, x.van(1, 2), 2 - day % 3);
      due("van(2, 2) on day " + day, x.van(2, 2), day % 8);
      x.days(1);
    }
  }

  static void terms2_atFirstItsHome() {
    says("terms2", "Each ITEM has one PLACE: at a BRANCH (at first its HOME), in a VAN, or LENT at a BRANCH.");
    LoanVans x = of(AB + "title t 1; item t b; item t a;");
    due("item(0, 2)", x.item(0, 2), 0);
    due("item(0, 3)", x.item(0, 3), 1);
    due("item(1, 3)", x.item(1, 3), 0);
  }

  // ---- terms 2: ways

  static void terms2_boardedOnADayOnWhichItIsThereLeftOnALaterOne() {
    says("terms2", "each is boarded at a BRANCH on a DAY on which it is there, and left at a BRANCH on a later DAY, less than a round later");
    LoanVans x = of(AB + "van 1 a b;");
    due("arrival(0, 1, 0)", x.arrival(0, 1, 0), 1);
    due("arrival(0, 1, 1): it was there a day ago", x.arrival(0, 1, 1), 3);
    due("arrival(1, 0, 0): it isn't there yet", x.arrival(1, 0, 0), 2);
    LoanVans y = of(ABC + "van 1 a b b b b b b c;");
    due("a round less one day", y.arrival(0, 2, 0), 7);
    due("a round and that", y.arrival(0, 2, 1), 15);
    LoanVans z = of(AB + "van 1 a a;");
    due("it never is there", z.arrival(0, 1, 0), -2);
    due("nor goes from there", z.arrival(1, 0, 0), -2);
  }

  static void terms2_theNextOneIsBoardedThatDayOrLater() {
    says("terms2", "the next one is boarded there that DAY or later.");
    due("that day, a van of a greater number", of(ABC + "van 1 a b; van 1 c b;").arrival(0, 2, 0), 2);
    due("that day, a van of a lesser number", of(ABC + "van 1 c b; van 1 a b;").arrival(0, 2, 0), 2);
    due("later", of(ABC + "van 1 a b; van 1 c c b c;").arrival(0, 2, 0), 3);
    due("not a day ago", of(ABC + "van 1 a b; van 1 b c c c;").arrival(0, 2, 0), 5);
  }

  static void terms2_asIfTheyHadRoomForAll() {
    says("terms2", "VANS, one behind another, as if they had ROOM for all");
    LoanVans x = of(AB + "title t 9; item t a; item t a; van 1 a b; hold b t; hold b t;", 1);
    due("the van is full", x.van(0, 3), 1);
    due("arrival(0, 1, 2)", x.arrival(0, 1, 2), 3);
    due("leg(0, 1, 0, 1)", x.leg(0, 1, 0, 1), 0);
  }

  static void terms2_arrival40DaysBehindTheFirstAtMost() {
    says("terms2", "ARRIVAL: the least DAY on which a WAY ends, 40 DAYS behind the first at most");
    LoanVans x = of(Edge.FAR);
    due("40 days", x.arrival(0, 4, 4), 44);
    due("41 days", x.arrival(0, 4, 3), -2);
    due("39 days", x.arrival(0, 4, 5), 44);
    due("40 days, a leg", x.leg(0, 4, 4, 1), 4);
    due("41 days, no leg", x.leg(0, 4, 3, 1), -2);
    LoanVans y = of(Edge.FAR + "title t 1; item t a;", 3);
    y.hold(4, 0);
    y.days(1);
    due("no item by a way of 41 days", y.holdOf(0, 2), 0);
    y.days(1);
    due("one by a way of 40 days", y.holdOf(0, 2), 1);
  }

  static void terms2_theDayItselfForTheSameBranch() {
    says("terms2", "(the DAY itself for the same BRANCH)");
    LoanVans x = of(AB);
    due("arrival(0, 0, 0)", x.arrival(0, 0, 0), 0);
    due("arrival(1, 1, 9999)", x.arrival(1, 1, 9999), 9999);
    due("arrival(0, 1, 0)", x.arrival(0, 1, 0), -2);
  }

  private static void leg(String call, LoanVans x, int from, int to, int day, int... want) {
    for (int what = 0; what < 4; what++) {
      due(call + ": leg(" + from + ", " + to + ", " + day + ", " + what + ")", x.leg(from, to, day, what), want[what]);
    }
  }

  static void terms2_firstLegTheOneThatBoardsFirst() {
    says("terms2", "FIRST LEG: of all WAYS with that ARRIVAL the one that boards first");
    leg("a van of a greater number, but ahead", of(ABC + "van 1 c c a b; van 1 a c a a;"), 0, 1, 0, 1, 0, 2, 1);
    leg("none with that arrival boards today", of(ABC + "van 1 a c c c c c c c; van 1 c a b c;"), 0, 1, 0, 1, 1, 1, 2);
  }

  static void terms2_ofTheseByTheLeastVan() {
    says("terms2", "of these by the least VAN");
    leg("both are good", of(AB + "van 1 a b; van 1 a b;"), 0, 1, 0, 0, 0, 1, 1);
    leg("the first one goes elsewhere", of(ABC + "van 1 a c c c; van 1 a b; van 1 a b;"), 0, 1, 0, 1, 0, 1, 1);
    leg("the first one comes later", of(ABC + "van 1 a c b; van 1 a b;"), 0, 1, 0, 1, 0, 1, 1);
  }

  static void terms2_ofTheseTheOneThatLeavesItFirst() {
    says("terms2", "of these the one that leaves it first.");
    leg("at the next stop", of(ABC + "van 1 a c b;"), 0, 1, 0, 0, 0, 2, 1);
    leg("at the same branch", of(AB + "van 1 a a a b;"), 0, 1, 0, 0, 0, 0, 1);
  }

  // ---- terms 2: holds and the order of a day

  static void terms2_aHoldIsOneOfFive() {
    says("terms2", "A HOLD is OPEN (it has no ITEM), READY (it has one, not LENT yet), LENT, OVER (the ITEM came back), or CANCELLED.");
    LoanVans x = of(AB + "title t 2; item t a; hold b t; hold b t; van 1 a b;");
    int[][] want = {{0, -2}, {1, 0}, {1, 0}, {2, 0}, {2, 0}, {3, 0}};
    for (int day = 0; day < want.length; day++) {
      due("holdOf(0, 2) on day " + day, x.holdOf(0, 2), want[day][0]);
      due("holdOf(0, 3) on day " + day, x.holdOf(0, 3), want[day][1]);
      due("the next one has none till it came back, on day " + day, x.holdOf(1, 2), day < 5 ? 0 : 2);
      x.days(1);
    }
    Edge.due("cancel(1) that is lent", x.cancel(1), false);
    x.hold(0, 0);
    x.cancel(2);
    due("holdOf(2, 2)", x.holdOf(2, 2), 4);
  }

  static void terms2_freeIsAnItemAtABranchThatNoHoldHas() {
    says("terms2", "FREE is an ITEM at a BRANCH that no HOLD has.");
    LoanVans x = of(AB + "title t 2; item t a; van 1 a b;");
    due("no hold", x.title(0, 2), 1);
    x.hold(1, 0);
    due("an open one", x.title(0, 2), 1);
    x.days(1);
    due("a ready one", x.title(0, 2), 0);
    x.cancel(0);
    due("none, but in a van", x.title(0, 2), 0);
    x.days(1);
    due("none, left there; it boarded again", x.item(0, 2), 1);
    x.days(1);
    due("back", x.title(0, 2), 1);
    x.hold(0, 0);
    x.days(1);
    due("lent", x.title(0, 2), 0);
    x.days(1);
    due("its due day is now, but it isn't back yet", x.title(0, 2), 0);
    x.days(1);
    due("back again", x.title(0, 2), 1);
  }

  static void terms2_aLentItemsWhoseDueIsThatDayComeBack() {
    says("terms2", "(a) LENT ITEMS whose DUE is that DAY, or was ahead of it, come back: FREE at the BRANCH.");
    LoanVans x = of("branch a; title t 2; item t a; hold a t; hold a t;", 2);
    due("a day ahead of due it is out", x.holdOf(0, 2), 2);
    due("and the next one waits", x.holdOf(1, 2), 0);
    x.days(1);
    due("that day it comes back", x.holdOf(0, 2), 3);
    due("and is lent to the next one", x.holdOf(1, 5), 2);
    LoanVans y = of(AB + "title t 1; item t a; hold b t; van 1 a b;", 4);
    due("it comes back where it was lent", 10 * y.item(0, 3) + y.item(0, 2), 1);
    due("and boards there the same day", y.inVan(0, 0), 0);
  }

  static void terms2_bOpenHoldsByNumbers() {
    says("terms2", "(b) OPEN HOLDS, by numbers: each gets the FREE ITEM of its TITLE");
    LoanVans x = of(AB + "title t 1; item t a; hold b t; hold a t; van 1 a b;", 1);
    due("the first one gets it", x.holdOf(0, 3), 0);
    due("though the other one is nearer", x.holdOf(1, 3), -2);
  }

  static void terms2_bTheLeastArrivalOfSeveralTheLeastNumber() {
    says("terms2", "with the least ARRIVAL at its BRANCH from that DAY on, of several the least number");
    LoanVans x = of(AB + "title t 1; title u 1; item u b; item t a; item t b; item t b; van 3 a b; hold b t; hold b t; hold b t;", 1);
    due("the nearest, the least", x.holdOf(0, 3), 2);
    due("the next one", x.holdOf(1, 3), 3);
    due("the far one", x.holdOf(2, 3), 1);
    due("of another title", x.item(0, 4), -2);
    LoanVans y = of(ABC + "title t 1; item t b; item t a; van 9 c b a c; hold c t;", 1);
    due("by the day from which on", y.holdOf(0, 3), 0);
    LoanVans z = of(ABC + "title t 1; item t b; item t a; van 9 c b a c;", 2);
    z.hold(2, 0);
    z.days(1);
    due("by the day from which on", z.holdOf(0, 3), 1);
  }

  static void terms2_bIfThereIsOneWithAnArrival() {
    says("terms2", "of several the least number (if there is one with an ARRIVAL)");
    LoanVans x = of(AB + "title t 1; item t a; hold b t; hold a t;", 1);
    due("none", x.holdOf(0, 2), 0);
    due("holds behind it get theirs", x.holdOf(1, 5), 0);
    LoanVans y = of(ABC + "title t 1; item t a; item t c; hold b t; van 1 c b;", 1);
    due("those without aside", y.holdOf(0, 3), 1);
  }

  static void terms2_cReadyHoldsByNumbers() {
    says("terms2", "(c) READY HOLDS, by numbers, whose ITEM is at their BRANCH");
    LoanVans x = of("branch a; title t 1; title u 1; item u a; item t a; hold a t; hold a u;", 1);
    due("log(0, 0)", x.log(0, 0), 0);
    due("log(0, 1)", x.log(0, 1), 1);
    due("log(1, 0)", x.log(1, 0), 1);
    due("log(1, 1)", x.log(1, 1), 0);
    due("count(12)", x.count(12), 2);
    LoanVans y = of(AB + "title t 1; item t a; hold b t; van 1 a b;", 2);
    due("it came there in (d), behind (c)", y.holdOf(0, 2), 1);
    y.days(1);
    due("it is lent the next day", y.holdOf(0, 5), 2);
  }

  static void terms2_cAndThatIsntShut() {
    says("terms2", "and that isn't SHUT: LENT, RENEWED 0 times");
    LoanVans x = of("branch a closed 0; title t 1; item t a; hold a t;", 1);
    due("ready on the day on which it is shut", x.holdOf(0, 2), 1);
    x.days(1);
    due("lent the day behind", x.holdOf(0, 5), 1);
    due("shut elsewhere", of("branch b closed 0; branch a; title t 1; item t a; hold a t;", 1).holdOf(0, 5), 0);
  }

  static void terms2_cRenewed0TimesWhenItIsLentAgain() {
    says("terms2", "LENT, RENEWED 0 times; DUE");
    LoanVans x = of("branch a; title t 1; item t a; hold a t;", 1);
    due("renew(0)", x.renew(0), 2);
    due("item(0, 6)", x.item(0, 6), 1);
    x.hold(0, 0);
    x.days(2);
    due("lent again", x.holdOf(1, 5), 2);
    due("item(0, 6)", x.item(0, 6), 0);
  }

  static void terms2_cDueTheFirstDayOnWhichTheBranchIsntShut() {
    says("terms2", "DUE: the first DAY from that DAY and PERIOD on on which the BRANCH isn't SHUT.");
    int[][] want = {{1, 1}, {2, 2}, {3, 4}, {4, 4}, {7, 7}, {9, 9}, {10, 11}, {11, 11}, {59, 60}, {60, 60}};
    for (int[] each : want) {
      due("a period of " + each[0], of("branch a closed 3; title t " + each[0] + "; item t a; hold a t;", 1).item(0, 5), each[1]);
    }
    due("that of its home is none of it", of("branch b closed 3; branch a; title t 3; item t b; hold a t; van 1 b a;", 3).item(0, 5), 5);
  }

  static void terms2_dVansByNumbers() {
    says("terms2", "(d) VANS, by numbers: ITEMS whose LEG ends that DAY leave it");
    LoanVans x = of(ABC + "title t 9; item t a; hold c t; van 1 a b; van 1 c b;", 4);
    due("from a van to one of a greater number the same day", x.holdOf(0, 5), 3);
    LoanVans y = of(ABC + "title t 9; item t a; hold c t; van 1 c b; van 1 a b;", 2);
    due("one of a lesser number has gone", 10 * y.item(0, 3) + y.item(0, 2), 10);
    y.days(4);
    due("it takes it two days later", y.holdOf(0, 5), 5);
  }

  static void terms2_dTheyLeaveAheadOfThoseThatBoard() {
    says("terms2", "ITEMS whose LEG ends that DAY leave it; then of ITEMS at that BRANCH");
    LoanVans x = of(AB + "title t 9; title u 9; item t a; item u b; van 1 a b; hold b t; hold a u;", 2);
    due("one left", x.item(0, 2), 0);
    due("one boarded", x.inVan(0, 0), 1);
    due("van(0, 3)", x.van(0, 3), 1);
    due("van(0, 4)", x.van(0, 4), 2);
  }

  static void terms2_dThoseOfHoldsByNumbersOfThese() {
    says("terms2", "those of HOLDS by numbers of these, then FREE ones by numbers");
    LoanVans x = of(AB + "title t 9; title u 9; item t a; item u a; van 1 a b; hold b u; hold b t;", 1);
    due("the item of the first hold", x.inVan(0, 0), 1);
    due("the other one waits", x.waits(0, 0), 0);
    LoanVans y = of(AB + "title t 1; title u 9; item t a; item u b; van 1 a b; hold b t;", 3);
    y.hold(0, 1);
    y.days(1);
    due("the free one is behind that of a hold", y.inVan(0, 0), 1);
    due("it waits", y.waits(1, 0), 0);
    y.days(2);
    due("it boards then", y.inVan(0, 0), 0);
  }

  static void terms2_dThatHaveAnotherOneToGoTo() {
    says("terms2", "that have another one to go to (that of their HOLD; of FREE ones their HOME)");
    LoanVans x = of("branch a closed 2; branch b; title t 9; title u 9; title v 9; item t b; item u a; item v a; van 9 b a;"
        + "hold a t; hold a v;");
    due("at first all are at home", x.waits(0, 0), -2);
    x.days(2);
    x.hold(0, 0);
    due("one at the branch of its hold has none, though its home is another one", x.waits(0, 0), -2);
    x.days(1);
    due("van(0, 3)", x.van(0, 3), 0);
    x.cancel(0);
    due("free away from its home it has one", x.waits(0, 0), 0);
    due("free at home it has none", x.waits(0, 1), -2);
    x.undo();
    x.hold(1, 1);
    x.days(1);
    due("one that goes from its home to its hold boards", x.inVan(0, 0), 1);
    due("one that is lent stays", x.item(2, 2), 2);
    due("one that is lent stays", x.item(0, 2), 2);
  }

  static void terms2_dFreeOnesByNumbers() {
    says("terms2", "then FREE ones by numbers");
    LoanVans x = of("branch a closed 2; branch b; title t 9; title u 9; item u b; item t b; van 2 b a b b; van 1 b b b a;"
        + "hold a t; hold a u;", 2);
    x.cancel(0);
    x.cancel(1);
    due("waits(0, 0)", x.waits(0, 0), 0);
    due("waits(0, 1)", x.waits(0, 1), 1);
    x.days(2);
    due("the least one boards", x.inVan(1, 0), 0);
    due("one has room", x.inVan(1, 1), -2);
    due("the other one waits", x.waits(0, 0), 1);
  }

  static void terms2_dWhoseFirstLegIsByThisVanAndBoardsThatDay() {
    says("terms2", "each is boarded whose FIRST LEG from that DAY on is by this VAN and boards that DAY");
    LoanVans x = of(AB + "title t 9; item t a; item t a; hold b t; hold b t; van 1 a b; van 9 a b;", 1);
    due("the first leg of both is by van 0", x.van(0, 3), 1);
    due("van 1 takes none", x.van(1, 3), 0);
    due("one waits", x.waits(0, 0), 1);
    LoanVans y = of(ABC + "title t 9; item t a; hold b t; van 1 a c c c c c c c; van 1 c a b c;", 1);
    due("a van that comes later takes none", y.van(0, 3), 0);
    y.days(1);
    due("the first leg boards a day later", y.inVan(1, 0), 0);
  }

  static void terms2_dAsLongAsThereIsRoom() {
    says("terms2", "as long as there is ROOM.");
    String ten = AB + "title t 9;" + Edge.times("item t a;", 10) + Edge.times("hold b t;", 10);
    for (int room = 1; room <= 9; room++) {
      LoanVans x = of(ten + "van " + room + " a b;", 1);
      due("a room of " + room, x.van(0, 3), room);
      due("the next one waits", x.waits(0, 0), room);
    }
    LoanVans y = of(AB + "title t 9; title u 9; item t a; item u a; item u a; van 2 a a b; hold b t; hold b u; hold b u;", 1);
    due("van(0, 3)", y.van(0, 3), 2);
    y.days(1);
    due("those in it count till they leave it", y.van(0, 3), 2);
    due("one waits", y.waits(0, 0), 2);
  }

  static void terms2_eTheDayIsOneMore() {
    says("terms2", "(e) The DAY is one more.");
    LoanVans x = of(AB);
    due("days(1)", x.days(1), 1);
    due("days(60)", x.days(60), 61);
    due("count(6)", x.count(6), 61);
  }

  static void terms2_balance() {
    says("terms2", "BALANCE of a BRANCH with another one: how often ITEMS of its HOME were LENT at that one, less how often that one's were LENT at it.");
    LoanVans x = of(AB + "title t 1; title u 1; item t a; item u b; van 9 a b; hold b t; hold a u; hold a t; hold b u;", 12);
    due("served", x.served(0), 4);
    due("loans(0, 1)", x.loans(0, 1), 1);
    due("loans(1, 0)", x.loans(1, 0), 1);
    due("loans(0, 0)", x.loans(0, 0), 1);
    due("owed(0, 1)", x.owed(0, 1), 0);
    x.hold(1, 0);
    x.days(9);
    due("owed(0, 1)", x.owed(0, 1), 1);
    due("owed(1, 0)", x.owed(1, 0), -1);
  }

  static void terms2_recalledIfThatIsAheadOfDue() {
    says("terms2", "DUE of a LENT ITEM becomes the first DAY from now and grace on on which its BRANCH isn't SHUT, if that is ahead of DUE.");
    int[][] want = {{0, 1}, {1, 2}, {3, 4}, {4, 5}, {5, 5}, {30, 5}};
    for (int[] each : want) {
      LoanVans x = of("branch a; title t 5; item t a; hold a t; grace " + each[0] + ";", 1);
      due("recall(0) with a grace of " + each[0], x.recall(0), each[1]);
      due("item(0, 5)", x.item(0, 5), each[1]);
      due("what can be undone", x.count(9), each[1] < 5 ? 2 : 1);
    }
    LoanVans y = of("branch a closed 4; title t 5; item t a; hold a t; grace 3;", 1);
    due("a day on which it is shut, then that of due", y.recall(0), 5);
    due("what can be undone", y.count(9), 1);
    LoanVans z = of("branch a closed 3; title t 5; item t a; hold a t; grace 2;", 1);
    due("a day on which it is shut", z.recall(0), 4);
    LoanVans w = of("branch a; title t 60; item t a; hold a t; grace 30;", 29);
    due("a day ahead", w.recall(0), 59);
    due("the next day it stays", w.days(1) + w.recall(0), 30 + 59);
  }

  static void terms2_renewedFewerThanRenewsTimes() {
    says("terms2", "RENEWED: fewer than renews times, and no HOLD of its TITLE is OPEN: DUE becomes the first DAY from DUE and PERIOD on on which its BRANCH isn't SHUT.");
    for (int renews = 0; renews <= 9; renews++) {
      LoanVans x = of("branch a closed 6; title t 7; item t a; hold a t; renews " + renews + ";", 1);
      for (int k = 1; k <= renews; k++) {
        due("renew(0), time " + k + " of " + renews, x.renew(0), 7 + 7 * k);
      }
      due("renew(0), once more than " + renews, x.renew(0), -3);
      due("item(0, 6)", x.item(0, 6), renews);
      due("item(0, 5)", x.item(0, 5), 7 + 7 * renews);
    }
    LoanVans y = of("branch a closed 3; title t 5; item t a; hold a t;", 1);
    due("a day on which it is shut", y.renew(0), 11);
  }

  static void terms2_renewedNoHoldOfItsTitleIsOpen() {
    says("terms2", "and no HOLD of its TITLE is OPEN");
    LoanVans x = of(AB + "title t 9; title u 9; item t a; item t a; hold a t; van 1 a b;", 1);
    x.hold(1, 1);
    due("one of another title", x.renew(0), 18);
    x.undo();
    x.hold(1, 0);
    due("an open one", x.renew(0), -4);
    x.days(1);
    due("a ready one", x.holdOf(2, 2), 1);
    due("a ready one", x.renew(0), 18);
    x.undo();
    x.hold(1, 0);
    due("an open one again", x.renew(0), -4);
    x.cancel(3);
    due("a cancelled one", x.renew(0), 18);
  }

  static void terms2_cancelledItsItemGoesOnToTheEndOfItsLeg() {
    says("terms2", "CANCELLED: an OPEN or READY HOLD; its ITEM goes on to the end of its LEG, if it is in a VAN, and is FREE there.");
    LoanVans x = of(ABC + "title t 9; item t a; hold c t; van 1 a b c;", 1);
    x.cancel(0);
    due("item(0, 4)", x.item(0, 4), -2);
    due("item(0, 7) stays", x.item(0, 7), 1);
    due("item(0, 8) stays", x.item(0, 8), 1);
    x.days(1);
    due("it left at b, and boarded for its home", 100 * x.van(0, 4) + x.item(0, 7), 202);
    LoanVans y = of(ABC + "title t 9; item t a; hold c t; van 1 a b c;", 1);
    y.cancel(0);
    y.hold(1, 0);
    y.days(1);
    due("in a van it is none for another hold", y.holdOf(1, 2), 0);
    LoanVans z = of(AB + "title t 9; item t a; hold b t;");
    Edge.due("an open one", z.cancel(0), true);
    LoanVans w = of("branch a closed 0; title t 9; item t a; hold a t;", 1);
    Edge.due("a ready one at its branch", w.cancel(0), true);
    due("it is free", w.title(0, 2), 1);
  }

  // ---- terms 3

  static void terms3_sixtyDaysAtMost() {
    says("terms3", "FORETOLD: as if only DAYS went by from now on, 60 at most.");
    for (int period = 59; period <= 60; period++) {
      int want = period == 59 ? 59 : -2;
      LoanVans x = of(AB + "title t " + period + "; item t a; hold a t; hold a t; hold a t; van 1 b b;");
      due("lentOn(1)", x.lentOn(1), want);
      due("ifCancelled(2, 1)", x.ifCancelled(2, 1), want);
      due("ifNoVan(1, 0)", x.ifNoVan(1, 0), want);
      due("ifStop(1, 0, 0, 0)", x.ifStop(1, 0, 0, 0), want);
      due("ifClosed(1, 1, 0)", x.ifClosed(1, 1, 0), want);
      due("ifPeriod(1, 0, 59)", x.ifPeriod(1, 0, 59), 59);
      due("ifPeriod(1, 0, 60)", x.ifPeriod(1, 0, 60), -2);
      due("ifHold(0, 0)", of(AB + "title t " + period + "; item t a; hold a t;").ifHold(0, 0), want);
      due("served(59)", x.served(59), 1);
      due("served(60)", x.served(60), period == 59 ? 2 : 1);
    }
    LoanVans y = of("branch a; title t 60; item t a; hold a t; hold a t; hold a t;", 1);
    due("from day 1 on", y.lentOn(1), 60);
    due("from day 1 on", y.lentOn(2), -2);
    y.days(60);
    due("from day 61 on", y.lentOn(2), 120);
  }

  static void terms3_withoutAVan() {
    says("terms3", "Without a VAN: from now on nobody boards it, no WAY takes it.");
    LoanVans x = of(ABC + "title t 9; item t a; hold b t; van 1 a b; van 1 a c b;");
    due("lentOn(0)", x.lentOn(0), 2);
    due("by the other one", x.ifNoVan(0, 0), 3);
    due("without the other one", x.ifNoVan(0, 1), 2);
    LoanVans y = of(AB + "title t 9; item t a; hold b t; van 1 a b; van 9 b b;");
    due("no way takes it", y.ifNoVan(0, 0), -2);
    LoanVans z = of(AB + "title t 60; item t a; item t b; hold b t; hold b t; van 1 a b;");
    due("nobody boards it", z.ifNoVan(1, 0), -2);
    due("one that is there needs none", z.ifNoVan(0, 0), 0);
  }

  static void terms3_withAnotherStopAnotherRoom() {
    says("terms3", "With another STOP, another ROOM: from now on it is so.");
    LoanVans x = of(ABC + "title t 9; item t a; hold c t; van 1 a b;");
    due("lentOn(0)", x.lentOn(0), -2);
    due("ifStop(0, 0, 1, 2)", x.ifStop(0, 0, 1, 2), 2);
    due("ifStop(0, 0, 0, 2)", x.ifStop(0, 0, 0, 2), -2);
    LoanVans y = of(AB + "title t 9; item t a; item t a; van 1 a b; hold b t; hold b t;");
    due("ifRoom(3, 0, 1)", y.ifRoom(3, 0, 1), 1);
    due("ifRoom(3, 0, 2)", y.ifRoom(3, 0, 2), 2);
    due("ifRoom(60, 0, 0)", y.ifRoom(60, 0, 0), 0);
  }

  static void terms3_whoIsInAVanLeavesItInAnyCase() {
    says("terms3", "Who is in a VAN leaves it where and when was meant, in any case.");
    LoanVans x = of(ABC + "title t 9; item t a; hold b t; van 1 a b;", 1);
    due("lentOn(0)", x.lentOn(0), 2);
    due("without that van", x.ifNoVan(0, 0), 2);
    due("with another stop", x.ifStop(0, 0, 1, 2), 2);
    due("without room", x.ifRoom(2, 0, 0), 1);
    LoanVans y = of(ABC + "title t 9; item t a; hold c t; van 1 a b c;", 1);
    due("lentOn(0)", y.lentOn(0), 3);
    due("it leaves, but doesn't board again", y.ifNoVan(0, 0), -2);
    LoanVans z = of(AB + "title t 9; item t a; item t a; hold b t; hold b t; van 2 a a b;", 1);
    due("two are in it", z.van(0, 3), 2);
    due("with less room they leave, and one boards again", z.ifRoom(4, 0, 1), 1);
  }

  // ---- terms 4

  /** One of each that can be undone, seven in all; the last one leaves TOWN on day 6. */
  private static void doSeven(LoanVans x) {
    x.hold(0, 0);
    x.days(3);
    x.cancel(3);
    x.renew(0);
    x.recall(0);
    x.days(2);
    x.days(1);
  }

  static void terms4_whatCanBeUndoneTheLatestFirst() {
    says("terms4", "HOLDS told by call, CANCELLED, ITEMS RECALLED, RENEWED (those by which DUE is another one), calls of days() can be undone, the latest first");
    LoanVans x = Edge.town(0);
    doSeven(x);
    due("count(9)", x.count(9), 7);
    due("days(1) undone", x.undo(), 6);
    due("count(6)", x.count(6), 5);
    due("days(2) undone", x.undo(), 5);
    due("count(6)", x.count(6), 3);
    due("item(0, 5)", x.item(0, 5), 5);
    due("recall undone", x.undo(), 4);
    due("item(0, 5)", x.item(0, 5), 12);
    due("item(0, 6)", x.item(0, 6), 1);
    due("renew undone", x.undo(), 3);
    due("item(0, 5)", x.item(0, 5), 7);
    due("item(0, 6)", x.item(0, 6), 0);
    due("holdOf(3, 2)", x.holdOf(3, 2), 4);
    due("cancel undone", x.undo(), 2);
    due("holdOf(3, 2)", x.holdOf(3, 2), 0);
    due("days(3) undone", x.undo(), 1);
    due("count(6)", x.count(6), 0);
    due("count(5)", x.count(5), 4);
    due("hold undone", x.undo(), 0);
    due("count(5)", x.count(5), 3);
    due("nothing", x.undo(), NONE);
    Edge.same("undo", x, Edge.town(0));
  }

  static void terms4_thoseByWhichDueIsAnotherOne() {
    says("terms4", "(those by which DUE is another one)");
    LoanVans x = Edge.town(3);
    due("recall(0)", x.recall(0), 5);
    due("count(9)", x.count(9), 2);
    due("recall(0) that changes nothing", x.recall(0), 5);
    due("count(9)", x.count(9), 2);
    due("renew(0)", x.renew(0), 10);
    due("count(9)", x.count(9), 3);
    due("renew(0) that is refused", x.renew(0), -3);
    due("count(9)", x.count(9), 3);
    due("recall(1) that is refused", x.recall(1), -2);
    due("count(9)", x.count(9), 3);
  }

  static void terms4_twelveAtMostTheEldestAreForgotten() {
    says("terms4", "12 at most (the eldest are forgotten)");
    for (int calls = 11; calls <= 14; calls++) {
      LoanVans x = Edge.town(0);
      for (int k = 1; k <= calls; k++) {
        x.days(k);
        due("count(9)", x.count(9), Math.min(k, 12));
      }
      for (int k = Math.min(calls, 12) - 1; k >= 0; k--) {
        due("undo()", x.undo(), k);
      }
      due("undo()", x.undo(), NONE);
      due("back to the day behind those forgotten", x.count(6), calls == 14 ? 3 : calls == 13 ? 1 : 0);
    }
  }

  static void terms4_whatIsUndoneMakesRoomAnew() {
    says("terms4", "12 at most (the eldest are forgotten)");
    LoanVans x = Edge.town(0);
    for (int round = 0; round < 5; round++) {
      for (int k = 0; k < 12; k++) {
        x.days(1);
      }
      for (int k = 11; k >= 5; k--) {
        due("undo()", x.undo(), k);
      }
      due("count(6)", x.count(6), 5 * (round + 1));
      due("count(9)", x.count(9), 5);
    }
    for (int k = 4; k >= 0; k--) {
      due("undo()", x.undo(), k);
    }
    due("undo()", x.undo(), NONE);
    due("count(6)", x.count(6), 20);
    Edge.due("all is as on that day", Edge.allNow(x).equals(Edge.allNow(of(Edge.TOWN, 20))), true);
  }

  static void terms4_whatIsRefusedCantBeUndone() {
    says("terms4", "calls of days() can be undone");
    LoanVans x = Edge.town(3);
    LoanVans twin = Edge.town(3);
    x.hold(3, 0);
    x.hold(0, 2);
    x.hold(-1, 0);
    x.cancel(0);
    x.cancel(3);
    x.cancel(-1);
    x.recall(1);
    x.recall(3);
    x.renew(1);
    x.renew(-1);
    x.days(0);
    x.days(61);
    x.days(-1);
    due("count(9)", x.count(9), 1);
    Edge.same("refused calls", x, twin);
  }

  static void terms4_whatIsAskedChangesNothing() {
    says("terms4", "What is asked changes nothing.");
    for (int days = 0; days < 6; days++) {
      LoanVans x = Edge.town(days);
      LoanVans twin = Edge.town(days);
      x.fault(0);
      x.owed(0, 1);
      x.loans(0, 1);
      x.queue(0, 0);
      x.inVan(0, 0);
      x.waits(0, 0);
      x.arrival(0, 2, 9999);
      x.leg(0, 2, 1, 0);
      x.legs(0, 2, 2);
      x.given(0, 1);
      x.lentOn(1);
      x.ifHold(0, 0);
      x.ifCancelled(0, 1);
      x.ifCancelled(1, 2);
      x.ifNoVan(1, 1);
      x.where(0, 60);
      x.served(60);
      x.meet(0, 1);
      x.every(0, 0);
      x.farthest(0, 0);
      x.longest(0);
      x.lender(0);
      x.nextDue(0);
      x.path(0, 2, 0, 3, 0);
      x.reach(0, 7, 40);
      x.center(0);
      x.ifStop(1, 1, 1, 0);
      x.ifRoom(60, 0, 0);
      x.astray(60);
      x.waited(0);
      x.meanWait();
      x.busiest(0);
      x.ifClosed(1, 2, 5);
      x.ifPeriod(1, 0, 1);
      x.visits(0, 60);
      x.thereAndBack(0, 2, 0);
      x.bestDay(0, 2, 60);
      x.log(0, 0);
      x.ranked(0);
      due("lentOn(1)", x.lentOn(1), twin.lentOn(1));
      due("arrival(0, 2, 0)", x.arrival(0, 2, 0), twin.arrival(0, 2, 0));
      Edge.same("questions on day " + days, x, twin);
    }
  }

  static void terms4_whatIsRefusedChangesNothing() {
    says("terms4", "What is asked changes nothing.");
    for (int wrong : new int[] {-1, Edge.MIN, Edge.MAX}) {
      LoanVans x = Edge.town(3);
      LoanVans twin = Edge.town(3);
      int[] refused = {x.van(wrong, 0), x.van(0, wrong), x.stop(0, wrong), x.loans(0, wrong), x.queue(wrong, 0), x.inVan(wrong, 0),
          x.waits(wrong, 0), x.arrival(0, 1, wrong), x.leg(0, 1, 0, wrong), x.legs(wrong, 1, 0), x.given(wrong, 0),
          x.lentOn(wrong), x.ifHold(0, wrong), x.ifCancelled(1, wrong), x.ifNoVan(1, wrong), x.where(0, wrong),
          x.served(wrong), x.meet(0, wrong), x.every(0, wrong), x.farthest(0, wrong), x.longest(wrong), x.lender(wrong),
          x.nextDue(wrong), x.path(0, 1, 0, 0, wrong), x.reach(0, 0, wrong), x.center(wrong), x.ifStop(1, 0, wrong, 0),
          x.ifStop(1, 0, 0, wrong), x.ifRoom(60, 0, wrong), x.astray(wrong), x.waited(wrong), x.busiest(wrong),
          x.ifClosed(1, wrong, 0), x.ifPeriod(1, 0, wrong), x.visits(0, wrong), x.thereAndBack(0, 1, wrong),
          x.bestDay(0, 1, wrong), x.log(0, wrong), x.count(wrong), x.fault(wrong)};
      for (int k = 0; k < refused.length; k++) {
        due("refused call " + k + " with " + wrong, refused[k], NONE);
      }
      due("owed", x.owed(0, wrong), Edge.MIN);
      due("branch", Edge.thrown(() -> x.branch(wrong, 0)), Edge.NO_INDEX);
      due("title", Edge.thrown(() -> x.title(0, wrong)), Edge.NO_ELEMENT);
      due("item", Edge.thrown(() -> x.item(wrong, 0)), Edge.NO_INDEX);
      due("holdOf", Edge.thrown(() -> x.holdOf(0, wrong)), Edge.NO_ELEMENT);
      due("lentOn(1)", x.lentOn(1), twin.lentOn(1));
      Edge.same("refused calls with " + wrong, x, twin);
    }
  }

  static void terms4_noneGoesFirst() {
    says("terms4", "Of several answers that hold NONE goes first, then -2, -3 and so on");
    LoanVans full = of(Edge.FULL);
    due("hold, no such branch, there are 40", full.hold(8, 0), NONE);
    due("hold, no such title, there are 40", full.hold(0, 6), NONE);
    due("ifHold, no such branch, there are 40", full.ifHold(8, 0), NONE);
    due("ifHold, no such title, there are 40", full.ifHold(0, 6), NONE);
    LoanVans x = of(AB + "title t 9; item t a; van 1 a a; renews 0;");
    due("queue", x.queue(1, 0), NONE);
    due("queue", x.queue(0, -1), NONE);
    due("inVan", x.inVan(1, 0), NONE);
    due("waits", x.waits(2, 0), NONE);
    due("leg, no such what, no way", x.leg(0, 1, 0, 4), NONE);
    due("path, no such what, no way", x.path(0, 1, 0, 0, 4), NONE);
    due("path, k below 0, no way", x.path(0, 1, 0, -1, 0), NONE);
    due("longest", x.longest(2), NONE);
    due("nextDue", x.nextDue(2), NONE);
    due("log", x.log(0, 4), NONE);
    due("bestDay, no such n, no way", x.bestDay(0, 1, 61), NONE);
    due("thereAndBack, no such day, no way", x.thereAndBack(0, 1, -1), NONE);
    LoanVans none = new LoanVans();
    due("lender", none.lender(2), NONE);
    due("center", none.center(2), NONE);
    due("busiest", none.busiest(2), NONE);
    due("ranked", none.ranked(-1), NONE);
    due("ifCancelled, one and the same, that can't be", full.ifCancelled(40, 40), NONE);
  }

  static void terms4_thenMinus2Minus3AndSoOn() {
    says("terms4", "Of several answers that hold NONE goes first, then -2, -3 and so on");
    LoanVans x = of("branch a; branch b; title t 9; item t a; hold b t; renews 0;");
    due("renew: not lent, as often as may be, an open hold", x.renew(0), -2);
    LoanVans y = of("branch a; branch b; title t 9; item t a; hold a t; hold b t; renews 0;", 1);
    due("renew: as often as may be, an open hold", y.renew(0), -3);
    LoanVans z = of("branch a; branch b; title t 9; item t a; hold a t; hold b t; renews 1;", 1);
    due("renew: an open hold", z.renew(0), -4);
    due("renew: no such item", z.renew(1), NONE);
  }

  static void terms4_indexOutOfBoundsAheadOfNoSuchElement() {
    says("terms4", "IndexOutOfBoundsException ahead of NoSuchElementException.");
    LoanVans x = Edge.town(0);
    for (int what : new int[] {-1, 10, Edge.MIN, Edge.MAX}) {
      due("branch(3, " + what + ")", Edge.thrown(() -> x.branch(3, what)), Edge.NO_INDEX);
      due("title(2, " + what + ")", Edge.thrown(() -> x.title(2, what)), Edge.NO_INDEX);
      due("item(3, " + what + ")", Edge.thrown(() -> x.item(3, what)), Edge.NO_INDEX);
      due("holdOf(3, " + what + ")", Edge.thrown(() -> x.holdOf(3, what)), Edge.NO_INDEX);
      due("branch(2, " + what + ")", Edge.thrown(() -> x.branch(2, what)), Edge.NO_ELEMENT);
      due("title(1, " + what + ")", Edge.thrown(() -> x.title(1, what)), Edge.NO_ELEMENT);
      due("item(2, " + what + ")", Edge.thrown(() -> x.item(2, what)), Edge.NO_ELEMENT);
      due("holdOf(2, " + what + ")", Edge.thrown(() -> x.holdOf(2, what)), Edge.NO_ELEMENT);
    }
  }

  static void whatItIs_512Calls() {
    says("whatItIs", "An object is used for at most 512 calls after it has been made");
    LoanVans x = new LoanVans();
    for (int call = 1; call < 511; call++) {
      due("days(60)", x.days(60), 60 * call);
    }
    due("call 511", x.undo(), 11);
    due("call 512", x.count(6), 60 * 509);
    LoanVans y = of("branch a; title t 1; item t a;");
    for (int call = 6; call <= 512; call++) {
      due("days(60)", y.days(60), 60 * (call - 5));
    }
  }

  public static void main(String[] args) {
    Edge.run(EdgeTermsTest.class, "terms2", "terms3", "terms4", "whatItIs");
  }
}
