/** The edges of promises 22 to 51: ways, who waits and owes, what is foretold. */
public final class EdgeQuestionTest {
  private static final int NONE = Edge.NONE;
  private static final String AB = "branch a; branch b; ";
  private static final String ABC = "branch a; branch b; branch c; ";
  private static final String NO_WAY = AB + "title t 9; item t a; van 1 a a; hold b t;";
  /** From d on day 8 on it takes forty legs, one a day, to c. */
  private static final String FORTY_LEGS = "branch a;branch b;branch c;branch d;branch e;branch f;branch g;branch h;"
      + "van 1 b d d d d d d;van 1 f e f e e e g;van 1 c g h h h h h h;van 1 f a a f b b a a;";
  /** Three days from a to d on each 280th day alone, by vans with rounds of five, seven and eight days. */
  private static final String SELDOM = "branch a; branch b; branch c; branch d; van 1 a b b b b; van 1 b c c c c c c; van 1 c d d d d d d d;";

  /** From d on day 2 on one is at a on day 8, but it takes 41 days to come back then. */
  private static final String NONE_BACK = "branch a;branch b;branch c;branch d;branch e;branch f;branch g;branch h;"
      + "van 1 f e b b b b;van 1 g g g g c c f f;van 1 e a a a a a a;van 1 h d d c h h h h;";

  private static void says(String where, String words) {
    Edge.says(where, words);
  }

  private static void due(String call, int got, int want) {
    Edge.due(call, got, want);
  }

  private static LoanVans of(String s) {
    return Edge.of(s);
  }

  private static LoanVans of(String s, int days) {
    return Edge.of(s, days);
  }

  // ---- promises 22 to 25

  static void promise22_day0To9999NoWayNoSuchOnes() {
    says("promise22", "ARRIVAL from a BRANCH to one from a DAY (0 .. 9999) on; -2: there is none; NONE: no such ones.");
    LoanVans x = of(Edge.FULL);
    Edge.range("arrival(0, 7, day)", day -> x.arrival(0, 7, day), 0, 7, 9999, 10007, NONE);
    Edge.range("arrival(from, 7, 0)", from -> x.arrival(from, 7, 0), 0, 7, 7, 0, NONE);
    Edge.range("arrival(7, to, 0)", to -> x.arrival(7, to, 0), 0, 8, 7, 0, NONE);
    LoanVans y = of(NO_WAY);
    due("none", y.arrival(0, 1, 0), -2);
    due("none", y.arrival(1, 0, 9999), -2);
    due("the same", y.arrival(1, 1, 9999), 9999);
    due("no vans", of(AB).arrival(0, 1, 0), -2);
    LoanVans far = of(Edge.FAR);
    due("40 days", far.arrival(0, 4, 4), 44);
    due("41 days", far.arrival(0, 4, 3), -2);
    due("the way itself may be later than the day of now", of(AB + "van 1 a b;", 60).arrival(0, 1, 0), 1);
  }

  static void promise23_noneOneAndTheSame() {
    says("promise23", "from a DAY (0 .. 9999) on, what 0 the VAN, 1 the DAY on which it is boarded, 2 the BRANCH where it is left, 3 the DAY; -2: there is none; NONE: no such ones, one and the same.");
    LoanVans x = of(Edge.FULL);
    Edge.range("leg(0, 7, day, 1)", day -> x.leg(0, 7, day, 1), 0, 0, 9999, 10000, NONE);
    Edge.range("leg(0, 7, 0, what)", what -> x.leg(0, 7, 0, what), 0, 0, 3, 1, NONE);
    Edge.range("leg(from, 3, 0, 1)", from -> x.leg(from, 3, 0, 1), 0, 0, 7, 7, NONE);
    Edge.range("leg(3, to, 0, 1)", to -> x.leg(3, to, 0, 1), 0, 3, 7, 3, NONE);
    for (int b = 0; b < 8; b++) {
      due("leg(" + b + ", " + b + ", 0, 0)", x.leg(b, b, 0, 0), NONE);
    }
    LoanVans y = of(NO_WAY);
    for (int what = 0; what < 4; what++) {
      due("none", y.leg(0, 1, 0, what), -2);
    }
    LoanVans far = of(Edge.FAR);
    due("40 days", far.leg(0, 4, 4, 3), 5);
    due("41 days", far.leg(0, 4, 3, 3), -2);
  }

  static void promise24_zeroTheSame() {
    says("promise24", "from a BRANCH to one from a DAY (0 .. 9999) on (0: the same); -2: there is none; NONE: no such ones.");
    LoanVans x = of(Edge.FULL);
    Edge.range("legs(0, 7, day)", day -> x.legs(0, 7, day), 0, 7, 9999, 7, NONE);
    Edge.range("legs(from, 7, 0)", from -> x.legs(from, 7, 0), 0, 7, 7, 0, NONE);
    Edge.range("legs(7, to, 0)", to -> x.legs(7, to, 0), 0, 1, 7, 0, NONE);
    due("one", of(AB + "van 1 a b;").legs(0, 1, 0), 1);
    due("none", of(NO_WAY).legs(0, 1, 0), -2);
    due("the same, without any van", of(AB).legs(1, 1, 0), 0);
    due("forty", of(FORTY_LEGS).legs(3, 2, 8), 40);
    due("41 days", of(Edge.FAR).legs(0, 4, 3), -2);
  }

  static void promise25_wereItTheFirstOne() {
    says("promise25", "The ITEM that an OPEN HOLD of a TITLE at a BRANCH would get now, were it the first one; -2: none; NONE: no such ones.");
    LoanVans x = of(Edge.FULL);
    Edge.range("given(t, 0)", t -> x.given(t, 0), 0, 0, 5, 23, NONE);
    Edge.range("given(5, b)", b -> x.given(5, b), 0, 23, 7, 23, NONE);
    due("of a title without items", x.given(1, 0), -2);
    x.days(1);
    due("none is free", x.given(0, 0), -2);
    due("no way", of(NO_WAY).given(0, 1), -2);
    due("there", of(NO_WAY).given(0, 0), 0);
    LoanVans y = of(AB + "title t 9; item t b; hold b t; hold b t;");
    due("ahead of those that are told", y.given(0, 1), 0);
    LoanVans far = of(Edge.FAR + "title t 1; item t a;", 3);
    due("41 days", far.given(0, 4), -2);
    far.days(1);
    due("40 days", far.given(0, 4), 0);
    LoanVans z = of(AB + "title t 1; item t a; hold b t; van 1 a b;", 1);
    z.cancel(0);
    due("in a van it isn't free", z.given(0, 1), -2);
  }

  // ---- promises 26 to 31

  static void promise26_notWithinTheseDaysCancelled() {
    says("promise26", "The DAY on which a HOLD was LENT, or is, FORETOLD; -2: not within these DAYS, CANCELLED; NONE: no such one.");
    LoanVans x = of(Edge.FULL);
    Edge.range("lentOn(h)", x::lentOn, 0, 0, 39, 0, NONE);
    due("lentOn(23)", x.lentOn(23), 1);
    x.cancel(0);
    due("cancelled", x.lentOn(0), -2);
    x.days(60);
    due("it was", x.lentOn(39), 0);
    due("no item", of("branch a; title t 1; hold a t;").lentOn(0), -2);
    LoanVans y = of("branch a; title t 59; item t a; hold a t; hold a t; hold a t;");
    due("now", y.lentOn(0), 0);
    due("the sixtieth day", y.lentOn(1), 59);
    due("later", y.lentOn(2), -2);
    due("a day later", of("branch a; title t 60; item t a; hold a t; hold a t;").lentOn(1), -2);
    due("none there", of(AB).lentOn(0), NONE);
  }

  static void promise27_minus3ThereAre40() {
    says("promise27", "-2: not within these DAYS; -3: there are 40; NONE: no such BRANCH, TITLE.");
    LoanVans x = of("branch a; title t 1; item t a;" + Edge.times("hold a t;", 39));
    due("the fortieth", x.ifHold(0, 0), 39);
    due("it isn't told", x.count(5), 39);
    due("and again", x.ifHold(0, 0), 39);
    x.hold(0, 0);
    due("one more", x.ifHold(0, 0), -3);
    LoanVans y = of("branch a; title t 1;" + Edge.times("hold a t;", 40));
    due("one more, and no item", y.ifHold(0, 0), -3);
    LoanVans z = of("branch a; title t 59; title u 60; item t a; item u a; hold a t; hold a u;");
    Edge.range("ifHold(0, t)", t -> z.ifHold(0, t), 0, 59, 1, -2, NONE);
    LoanVans w = of("branch a; branch b; title t 1; item t a; van 1 a b;");
    Edge.range("ifHold(b, 0)", b -> w.ifHold(b, 0), 0, 0, 1, 2, NONE);
  }

  static void promise28_minus3AheadOfMinus2() {
    says("promise28", "lentOn() of a HOLD, were another one CANCELLED now; -3: that one can't be (ahead of -2); -2: likewise; NONE: no such ones, one and the same.");
    LoanVans x = of("branch a; title t 59; item t a; hold a t; hold a t; hold a t; hold a t;");
    due("not cancelled", x.lentOn(2), -2);
    due("ifCancelled(2, 1)", x.ifCancelled(2, 1), 59);
    due("ifCancelled(3, 1)", x.ifCancelled(3, 1), -2);
    due("ifCancelled(0, 1)", x.ifCancelled(0, 1), 0);
    due("ifCancelled(1, 0)", x.ifCancelled(1, 0), 0);
    x.cancel(3);
    due("that one can't be, -2 holds too", x.ifCancelled(2, 3), -3);
    due("a cancelled one", x.ifCancelled(3, 2), -2);
    x.days(1);
    due("lent", x.ifCancelled(1, 0), -3);
    due("lent, -2 holds too", x.ifCancelled(2, 0), -3);
    x.days(60);
    due("over", x.ifCancelled(2, 0), -3);
    LoanVans full = of(Edge.FULL);
    Edge.range("ifCancelled(h, 1)", h -> full.ifCancelled(h, 1), 0, 0, 39, 0, NONE);
    Edge.range("ifCancelled(1, other)", other -> full.ifCancelled(1, other), 0, 0, 39, 0, NONE);
    due("one and the same", full.ifCancelled(0, 0), NONE);
    due("one and the same", full.ifCancelled(39, 39), NONE);
    LoanVans y = of("branch a closed 0; title t 9; item t a; hold a t; hold a t;", 1);
    due("a ready one", y.ifCancelled(1, 0), 1);
  }

  static void promise29_noSuchOnes() {
    says("promise29", "lentOn() of a HOLD without a VAN; -2: likewise; NONE: no such ones.");
    LoanVans full = of(Edge.FULL);
    Edge.range("ifNoVan(h, 0)", h -> full.ifNoVan(h, 0), 0, 0, 39, 0, NONE);
    Edge.range("ifNoVan(0, v)", v -> full.ifNoVan(0, v), 0, 0, 3, 0, NONE);
    LoanVans x = of(AB + "title t 9; item t a; hold b t; van 1 a b; van 1 b b;");
    due("that one", x.ifNoVan(0, 0), -2);
    due("the other one", x.ifNoVan(0, 1), 2);
    x.cancel(0);
    due("cancelled", x.ifNoVan(0, 1), -2);
    LoanVans y = of(AB + "title t 9; item t a; hold b t; van 1 a b;", 3);
    due("it was lent", y.ifNoVan(0, 0), 2);
    due("no vans", of("branch a; title t 1; hold a t;").ifNoVan(0, 0), NONE);
    LoanVans z = of(AB + "title t 9; item t b; item t a; hold b t; hold b t; van 1 a b;");
    due("another item without the van", z.ifNoVan(1, 0), 9);
  }

  static void promise29_nobodyBoardsItNorWaysTakeIt() {
    says("promise29", "lentOn() of a HOLD without a VAN");
    LoanVans x = of(ABC + "title t 9; item t a; hold b t; van 1 b a; van 1 a c;");
    due("lentOn(0)", x.lentOn(0), 3);
    due("it isn't kept by the one that is left out", x.ifNoVan(0, 1), 3);
    due("by that one alone there is no way", x.ifNoVan(0, 0), -2);
  }

  static void promise29_withoutItForThatQuestionAlone() {
    says("promise29", "lentOn() of a HOLD without a VAN");
    LoanVans x = of(AB + "title t 58; item t a; hold a t; hold b t; van 1 a b;");
    due("no way to b", x.ifNoVan(1, 0), -2);
    due("in the van on day 59", x.where(0, 59), 10);
    due("no way to b", x.ifNoVan(1, 0), -2);
    due("there on day 60", x.where(0, 60), 1);
    due("no way to b", x.ifStop(1, 0, 1, 0), -2);
    due("in the van on day 59", x.where(0, 59), 10);
    due("no way to b", x.ifStop(1, 0, 1, 0), -2);
    due("there on day 60", x.where(0, 60), 1);
  }

  static void promise30_n0To60() {
    says("promise30", "Where an ITEM is, FORETOLD, behind so many DAYS (0 .. 60): 10 times its PLACE and the BRANCH, the VAN; NONE: no such ones.");
    LoanVans x = of(Edge.FULL);
    Edge.range("where(i, 0)", i -> x.where(i, 0), 0, 0, 23, 7, NONE);
    Edge.range("where(23, n)", n -> x.where(23, n), 0, 7, 60, 27, NONE);
    LoanVans y = of("branch a; title t 59; title u 60; item t a; item u a; hold a t; hold a u;");
    due("59 days", y.where(0, 59), 20);
    due("60 days", y.where(0, 60), 0);
    due("60 days", y.where(1, 60), 20);
    LoanVans z = of(AB + "title t 9; item t a; hold b t;" + Edge.times("van 1 b b;", 3) + "van 1 a b;");
    due("in the last van", z.where(0, 1), 13);
    due("at the last branch", z.where(0, 2), 1);
  }

  static void promise31_n0To60() {
    says("promise31", "How many HOLDS are LENT (OVER ones, too) behind so many DAYS, FORETOLD (0 .. 60); NONE: no such number.");
    LoanVans x = of(Edge.FULL);
    Edge.range("served(n)", x::served, 0, 0, 60, 40, NONE);
    due("served(1)", x.served(1), 24);
    due("served(2)", x.served(2), 40);
    LoanVans y = of("branch a; title t 59; item t a; hold a t; hold a t;");
    due("served(59)", y.served(59), 1);
    due("served(60)", y.served(60), 2);
    y.days(60);
    due("over ones, too", y.served(0), 2);
  }

  // ---- promises 32 to 37

  static void promise32_thisOneTooLessThan60FromNow() {
    says("promise32", "The first DAY from this one on, less than 60 DAYS from now, on which two VANS are at one BRANCH; -2: none; NONE: no such ones, one and the same.");
    LoanVans x = of(Edge.FULL);
    Edge.range("meet(v, 3), 3 is one and the same", v -> x.meet(v, 3), 0, 0, 2, 0, NONE);
    Edge.range("meet(3, w), 3 is one and the same", w -> x.meet(3, w), 0, 0, 2, 0, NONE);
    for (int v = 0; v < 4; v++) {
      due("one and the same", x.meet(v, v), NONE);
    }
    due("no such one", x.meet(4, 0), NONE);
    due("no such one", x.meet(0, 4), NONE);
    x.days(2);
    due("from this day on", x.meet(0, 3), 8);
    due("none", of(AB + "van 1 a b; van 1 b a;").meet(0, 1), -2);
    due("none", of(AB + "van 1 a a; van 1 b b;").meet(1, 0), -2);
    LoanVans y = of(ABC + "van 1 a a a a a a a b; van 1 c c c c c c b;");
    due("55 days from now, as far as it may be", y.meet(0, 1), 55);
    y.days(55);
    due("this day", y.meet(0, 1), 55);
    y.days(1);
    due("55 days from now", y.meet(1, 0), 111);
  }

  static void promise33_minus2ItNeverIs() {
    says("promise33", "The most DAYS from one DAY on which a VAN is at a BRANCH to the next one; -2: it never is; NONE: no such ones.");
    LoanVans x = of(Edge.FULL);
    Edge.range("every(v, 0)", v -> x.every(v, 0), 0, 2, 3, 8, NONE);
    Edge.range("every(3, b)", b -> x.every(3, b), 0, 8, 7, 8, NONE);
    due("it never is", x.every(0, 2), -2);
    LoanVans y = of(AB + "van 1 a a; van 1 a b a a b a; van 1 b a a a a a a b; van 1 b b b b b b b a;");
    due("each day", y.every(0, 0), 1);
    due("over the end of a round", y.every(1, 1), 3);
    due("two days at most", y.every(1, 0), 2);
    due("once, over the end of a round", y.every(2, 1), 7);
    due("once, within a round", y.every(2, 0), 3);
    due("once in a round", y.every(3, 0), 8);
    due("twice a day behind the end", y.every(3, 1), 2);
    due("never", y.every(0, 1), -2);
  }

  static void promise34_ofSeveralTheLeastThoseWithoutAside() {
    says("promise34", "from this DAY on is latest (of several the least number; those without aside), what 0 it, 1 the DAY; NONE: no such ones.");
    LoanVans x = of(Edge.FULL);
    Edge.range("farthest(from, 0)", from -> x.farthest(from, 0), 0, 7, 7, 6, NONE);
    Edge.range("farthest(0, what)", what -> x.farthest(0, what), 0, 7, 1, 7, NONE);
    LoanVans y = of(ABC + "branch d; van 1 b a; van 1 b c;");
    due("of several the least", y.farthest(1, 0), 0);
    due("the day", y.farthest(1, 1), 1);
    due("one without any, itself", y.farthest(3, 0), 3);
    due("one without any, this day", y.farthest(3, 1), 0);
    y.days(3);
    due("from this day on", y.farthest(1, 1), 5);
    due("from this day on, itself", y.farthest(3, 1), 3);
    LoanVans round = of("branch a;branch b;branch c;branch d;branch e;branch f;branch g;branch h;van 9 a b c d e f g h;");
    for (int from = 7; from >= 0; from--) {
      due("farthest(" + from + ", 0) of eight", round.farthest(from, 0), (from + 7) % 8);
      due("farthest(" + from + ", 1) of eight", round.farthest(from, 1), from + 7);
    }
    LoanVans far = of(Edge.FAR, 4);
    due("40 days", far.farthest(0, 0), 4);
    due("40 days", far.farthest(0, 1), 44);
    far.undo();
    far.days(3);
    due("41 days aside", far.farthest(0, 0), 7);
    due("41 days aside", far.farthest(0, 1), 40);
  }

  static void promise35_ofSeveralTheLeastNumber() {
    says("promise35", "The OPEN HOLD that was told first, of several the least number (what 0), for how many DAYS it waits (1); -2: there is none; NONE: no such what.");
    LoanVans x = of("branch a; title t 9; hold a t; hold a t;", 3);
    Edge.range("longest(what)", x::longest, 0, 0, 1, 3, NONE);
    x.hold(0, 0);
    x.cancel(0);
    due("longest(0)", x.longest(0), 1);
    x.cancel(1);
    due("told this day", x.longest(0), 2);
    due("told this day", x.longest(1), 0);
    x.cancel(2);
    due("none", x.longest(0), -2);
    due("none", x.longest(1), -2);
    due("ready ones aside", of("branch a closed 0; title t 9; item t a; hold a t;", 1).longest(0), -2);
  }

  static void promise36_noBranches() {
    says("promise36", "The BRANCH whose BALANCES with all others are together most, of several the least number (what 0), how much that is (1); -2: there are no BRANCHES; NONE: no such what.");
    LoanVans none = of("title t 1;");
    due("lender(0)", none.lender(0), -2);
    due("lender(1)", none.lender(1), -2);
    Edge.beyond("lender(what) of none", none::lender, 0, 1, NONE);
    LoanVans x = of("branch a; branch b; branch c; title t 1; item t c; van 1 c b; hold b t;");
    due("all like", x.lender(0), 0);
    due("all like", x.lender(1), 0);
    x.days(5);
    Edge.range("lender(what)", x::lender, 0, 2, 1, 1, NONE);
    due("one alone", of("branch a; title t 1; item t a; hold a t;", 1).lender(1), 0);
  }

  static void promise37_noneIsLent() {
    says("promise37", "The LENT ITEM whose DUE is next, of several the least number (what 0), DUE (1); -2: none is LENT; NONE: no such what.");
    LoanVans x = of("branch a; title t 5; title u 4; title v 4; item t a; item u a; item v a; hold a t; hold a u; hold a v;");
    due("none yet", x.nextDue(0), -2);
    due("none yet", x.nextDue(1), -2);
    Edge.beyond("nextDue(what) of none", x::nextDue, 0, 1, NONE);
    x.days(1);
    Edge.range("nextDue(what)", x::nextDue, 0, 1, 1, 4, NONE);
    x.days(4);
    due("the others are back", x.nextDue(0), 0);
    x.days(1);
    due("none any more", x.nextDue(0), -2);
    LoanVans full = of(Edge.FULL, 3);
    due("the last of 24", full.nextDue(0), 23);
    due("the last of 24", full.nextDue(1), 60);
    full.days(58);
    due("none of 24", full.nextDue(0), -2);
  }

  // ---- promises 38 to 40

  static void promise38_kFrom0OnNotSoMany() {
    says("promise38", "Of the k-th leg (k from 0 on) of a WAY that goes by FIRST LEGS (as of legs()), what 0 the VAN, 1 the DAY on which it is boarded, 2 the BRANCH where it is left, 3 the DAY; -2: there are not so many, there is no WAY; NONE: no such ones.");
    LoanVans x = of(Edge.FULL);
    int[][] want = {{0, 0, 1, 1}, {3, 1, 2, 2}, {3, 6, 7, 7}};
    int[] which = {0, 1, 6};
    for (int n = 0; n < 3; n++) {
      for (int what = 0; what < 4; what++) {
        due("path(0, 7, 0, " + which[n] + ", " + what + ")", x.path(0, 7, 0, which[n], what), want[n][what]);
      }
    }
    due("path(0, 7, 0, 7, 0)", x.path(0, 7, 0, 7, 0), -2);
    due("path(0, 7, 0, MAX, 0)", x.path(0, 7, 0, Edge.MAX, 0), -2);
    due("path(0, 7, 0, -1, 0)", x.path(0, 7, 0, -1, 0), NONE);
    due("path(0, 7, 0, MIN, 0)", x.path(0, 7, 0, Edge.MIN, 0), NONE);
    due("the same: none", x.path(3, 3, 0, 0, 0), -2);
    Edge.range("path(0, 7, 0, 0, what)", what -> x.path(0, 7, 0, 0, what), 0, 0, 3, 1, NONE);
    Edge.range("path(0, 7, day, 0, 1)", day -> x.path(0, 7, day, 0, 1), 0, 0, 9999, 10000, NONE);
    Edge.range("path(from, 3, 0, 0, 1)", from -> x.path(from, 3, 0, 0, 1), 0, 0, 7, 7, NONE);
    Edge.range("path(3, to, 0, 0, 1)", to -> x.path(3, to, 0, 0, 1), 0, 3, 7, 3, NONE);
    due("no way", of(NO_WAY).path(0, 1, 0, 0, 0), -2);
    due("no way of 41 days", of(Edge.FAR).path(0, 4, 3, 0, 0), -2);
  }

  static void promise38_fortyLegs() {
    says("promise38", "-2: there are not so many");
    LoanVans x = of(FORTY_LEGS);
    due("arrival(3, 2, 8)", x.arrival(3, 2, 8), 48);
    int b = 3;
    for (int k = 0; k < 40; k++) {
      int van = x.path(3, 2, 8, k, 0);
      due("boarded, leg " + k, x.path(3, 2, 8, k, 1), 8 + k);
      due("left, leg " + k, x.path(3, 2, 8, k, 3), 9 + k);
      due("the van is there, leg " + k, x.stop(van, (8 + k) % x.van(van, 1)), b);
      b = x.path(3, 2, 8, k, 2);
      due("the van is where it is left, leg " + k, x.stop(van, (9 + k) % x.van(van, 1)), b);
    }
    due("the last one ends there", b, 2);
    due("path(3, 2, 8, 40, 0)", x.path(3, 2, 8, 40, 0), -2);
    due("path(3, 2, 8, 41, 0)", x.path(3, 2, 8, 41, 0), -2);
  }

  static void promise39_itselfTooN0To40() {
    says("promise39", "To how many BRANCHES (itself, too) ARRIVAL from a BRANCH from a DAY (0 .. 9999) on is within so many DAYS (0 .. 40); NONE: no such ones.");
    LoanVans x = of(Edge.FULL);
    Edge.range("reach(0, 0, n)", n -> x.reach(0, 0, n), 0, 1, 40, 8, NONE);
    Edge.range("reach(0, day, 7)", day -> x.reach(0, day, 7), 0, 8, 9999, 7, NONE);
    Edge.range("reach(from, 0, 1)", from -> x.reach(from, 0, 1), 0, 2, 7, 1, NONE);
    due("reach(0, 0, 6)", x.reach(0, 0, 6), 7);
    due("reach(0, 0, 7)", x.reach(0, 0, 7), 8);
    due("itself alone", of(NO_WAY).reach(1, 0, 40), 1);
    LoanVans far = of(Edge.FAR);
    due("39 of 40 days", far.reach(0, 4, 39), 7);
    due("40 of 40 days", far.reach(0, 4, 40), 8);
    due("40 of 41 days", far.reach(0, 3, 40), 7);
  }

  static void promise40_fortyOneToOneWithout() {
    says("promise40", "are together fewest (41 to one without), of several the least number (what 0), how many (1); -2: there are no BRANCHES; NONE: no such what.");
    LoanVans none = of("title t 1;");
    due("center(0)", none.center(0), -2);
    due("center(1)", none.center(1), -2);
    Edge.beyond("center(what) of none", none::center, 0, 1, NONE);
    LoanVans alone = of("branch a;");
    Edge.range("center(what) of one", alone::center, 0, 0, 1, 0, NONE);
    LoanVans x = of("branch a; branch b; branch c; branch d; branch e; branch f; branch g; branch h;");
    Edge.range("center(what) of eight without ways", x::center, 0, 0, 1, 7 * 41, NONE);
    LoanVans y = of(ABC + "branch d; van 1 b c d;");
    Edge.range("center(what)", y::center, 0, 1, 1, 41 + 1 + 2, NONE);
    y.days(1);
    due("from this day on", y.center(0), 2);
    due("from this day on", y.center(1), 41 + 1 + 2);
  }

  // ---- promises 41 to 43

  static void promise41_noSuchOnes() {
    says("promise41", "lentOn() of a HOLD, were the k-th STOP of a VAN another BRANCH; -2: likewise; NONE: no such ones.");
    LoanVans full = of(Edge.FULL);
    Edge.range("ifStop(h, 0, 0, 0)", h -> full.ifStop(h, 0, 0, 0), 0, 0, 39, 0, NONE);
    Edge.range("ifStop(0, v, 0, 0)", v -> full.ifStop(0, v, 0, 0), 0, 0, 3, 0, NONE);
    Edge.range("ifStop(0, 3, k, 0)", k -> full.ifStop(0, 3, k, 0), 0, 0, 7, 0, NONE);
    Edge.range("ifStop(0, 0, k, 0)", k -> full.ifStop(0, 0, k, 0), 0, 0, 1, 0, NONE);
    Edge.range("ifStop(0, 0, 0, b)", b -> full.ifStop(0, 0, 0, b), 0, 0, 7, 0, NONE);
    LoanVans x = of(ABC + "title t 9; item t a; hold c t; van 1 a b b b b b b b;");
    due("the last stop", x.ifStop(0, 0, 7, 2), 8);
    due("the stop next to the first", x.ifStop(0, 0, 1, 2), 2);
    due("the first stop", x.ifStop(0, 0, 0, 2), -2);
    due("stop(0, 7) stays", x.stop(0, 7), 1);
    due("lentOn(0) stays", x.lentOn(0), -2);
    x.cancel(0);
    due("cancelled", x.ifStop(0, 0, 1, 2), -2);
  }

  static void promise42_n0To60Room0To9() {
    says("promise42", "served() behind so many DAYS (0 .. 60) with another ROOM (0 .. 9) of a VAN; NONE: no such ones.");
    LoanVans full = of(Edge.FULL);
    Edge.range("ifRoom(n, 0, 1)", n -> full.ifRoom(n, 0, 1), 0, 0, 60, 40, NONE);
    Edge.range("ifRoom(60, v, 1)", v -> full.ifRoom(60, v, 1), 0, 40, 3, 40, NONE);
    Edge.range("ifRoom(60, 0, room)", room -> full.ifRoom(60, 0, room), 0, 40, 9, 40, NONE);
    LoanVans x = of(AB + "title t 60;" + Edge.times("item t a;", 10) + Edge.times("hold b t;", 10) + "van 5 a b;");
    for (int room = 0; room <= 9; room++) {
      due("ifRoom(3, 0, " + room + ")", x.ifRoom(3, 0, room), room);
    }
    due("van(0, 0) stays", x.van(0, 0), 5);
    due("served(3) stays", x.served(3), 5);
  }

  static void promise43_n0To60() {
    says("promise43", "How many ITEMS are neither LENT nor at HOME behind so many DAYS, FORETOLD (0 .. 60); NONE: no such number.");
    LoanVans full = of(Edge.FULL);
    Edge.range("astray(n)", full::astray, 0, 0, 60, 0, NONE);
    LoanVans x = of(AB + "title t 58; title u 1; item t a; item u b; hold b t; van 1 a b;");
    int[][] want = {{0, 0}, {1, 1}, {2, 1}, {3, 0}, {59, 0}, {60, 0}};
    for (int[] each : want) {
      due("astray(" + each[0] + ")", x.astray(each[0]), each[1]);
    }
    LoanVans y = of(AB + "title t 57; item t a; hold b t; van 1 a b;");
    due("back from its loan, in a van home", y.astray(60), 1);
    due("a day ahead it is lent", y.astray(59), 0);
  }

  // ---- promises 44 to 46

  static void promise44_cancelledNoSuchOne() {
    says("promise44", "For how many DAYS a HOLD waited till it was LENT, or waits now; -2: CANCELLED; NONE: no such one.");
    LoanVans full = of(Edge.FULL, 2);
    Edge.range("waited(h)", full::waited, 0, 0, 39, 0, NONE);
    due("a day", full.waited(38), 1);
    LoanVans x = of("branch a; title t 1; hold a t;");
    due("told now", x.waited(0), 0);
    x.days(60);
    due("it waits now", x.waited(0), 60);
    x.hold(0, 0);
    due("told now", x.waited(1), 0);
    x.cancel(0);
    due("cancelled", x.waited(0), -2);
    due("none there", of(AB).waited(0), NONE);
  }

  static void promise45_hundredthsDownwards() {
    says("promise45", "The mean of that of all HOLDS that were LENT, in hundredths, downwards; -2: none was.");
    due("none there", new LoanVans().meanWait(), -2);
    due("one that waits isn't one", of("branch a; title t 1; hold a t;", 9).meanWait(), -2);
    String s = "branch a; title t 1; item t a; hold a t; hold a t; hold a t; hold a t;";
    int[] want = {-2, 0, 50, 100, 150};
    for (int day = 1; day < 5; day++) {
      due("on day " + day, of(s, day).meanWait(), want[day]);
    }
    LoanVans x = of("branch a; title t 1; item t a; item t a; hold a t; hold a t; hold a t;", 2);
    due("a third", x.meanWait(), 33);
    LoanVans z = of("branch a closed 0; branch b; title t 9; title u 9; item t a; item t a; item u b; hold a t; hold a t; hold b u;", 2);
    due("two thirds", z.meanWait(), 66);
    LoanVans first = of("branch a closed 0; title t 9; item t a; hold a t;", 2);
    due("the first one alone", first.meanWait(), 100);
    first.days(10);
    due("over ones, too", first.meanWait(), 100);
  }

  static void promise46_noVans() {
    says("promise46", "The VAN that ITEMS boarded most often, of several the least number (what 0), how often (1); -2: there are no VANS; NONE: no such what.");
    LoanVans none = of("branch a;");
    due("busiest(0)", none.busiest(0), -2);
    due("busiest(1)", none.busiest(1), -2);
    Edge.beyond("busiest(what) of none", none::busiest, 0, 1, NONE);
    LoanVans x = of(ABC + "title t 9; title u 9; item t a; item u a; van 1 c c; van 1 a b; van 1 a c; van 1 b b; hold b t; hold c u;");
    due("none boarded yet", x.busiest(0), 0);
    due("none boarded yet", x.busiest(1), 0);
    x.days(1);
    Edge.range("busiest(what), of two the least", x::busiest, 0, 1, 1, 1, NONE);
    LoanVans y = of(AB + "title t 9; item t a; van 1 b b; van 1 b b; van 1 b b; van 1 a b; hold b t;", 1);
    due("the last one", y.busiest(0), 3);
  }

  // ---- promises 47 to 51

  static void promise47_weekdayNoneOr0To6() {
    says("promise47", "(NONE: on none; DUE of ITEMS that are LENT stay); -2: likewise; NONE: no such ones.");
    LoanVans full = of(Edge.FULL);
    Edge.range("ifClosed(h, 0, 6)", h -> full.ifClosed(h, 0, 6), 0, 0, 39, 0, NONE);
    Edge.range("ifClosed(39, b, 0)", b -> full.ifClosed(39, b, 0), 0, 0, 7, 1, NONE);
    Edge.range("ifClosed(39, 7, weekday)", weekday -> full.ifClosed(39, 7, weekday), -1, 0, 6, 0, NONE);
    LoanVans x = of("branch a closed 0; title t 9; item t a; hold a t;");
    due("lentOn(0)", x.lentOn(0), 1);
    due("on none", x.ifClosed(0, 0, -1), 0);
    due("on 1", x.ifClosed(0, 0, 1), 0);
    due("on 0", x.ifClosed(0, 0, 0), 1);
    due("branch(0, 0) stays", x.branch(0, 0), 0);
    x.cancel(0);
    due("cancelled", x.ifClosed(0, 0, -1), -2);
    LoanVans y = of("branch a closed 3; title t 3; item t a; hold a t; hold a t;", 1);
    due("due is 4", y.lentOn(1), 4);
    due("it stays", y.ifClosed(1, 0, -1), 4);
    due("it stays, and it is shut then", y.ifClosed(1, 0, 4), 5);
    LoanVans z = of("branch a closed 3; title t 3; item t a; hold a t; hold a t;");
    due("due is to come", z.ifClosed(1, 0, -1), 3);
  }

  static void promise48_period1To60() {
    says("promise48", "were PERIOD of a TITLE another one (1 .. 60) from now on (DUE of ITEMS that are LENT stay); -2: likewise; NONE: no such ones.");
    LoanVans full = of(Edge.FULL);
    Edge.range("ifPeriod(h, 0, 1)", h -> full.ifPeriod(h, 0, 1), 0, 0, 39, 0, NONE);
    Edge.range("ifPeriod(38, t, 2)", t -> full.ifPeriod(38, t, 2), 0, 2, 5, 1, NONE);
    Edge.range("ifPeriod(38, 0, period)", period -> full.ifPeriod(38, 0, period), 1, 1, 60, -2, NONE);
    due("59", full.ifPeriod(38, 0, 59), 59);
    due("title(0, 0) stays", full.title(0, 0), 1);
    LoanVans x = of("branch a; title t 5; item t a; hold a t; hold a t; hold a t;", 1);
    due("due stays", x.ifPeriod(1, 0, 60), 5);
    due("due stays", x.ifPeriod(1, 0, 1), 5);
    due("the next one is another one", x.ifPeriod(2, 0, 1), 6);
    due("as it is", x.ifPeriod(2, 0, 5), 10);
    x.cancel(2);
    due("cancelled", x.ifPeriod(2, 0, 1), -2);
  }

  static void promise49_nowOrBehindOneOfTheNextNDays() {
    says("promise49", "BRANCHES (bits) at which an ITEM is, or is LENT, now or behind one of the next n DAYS (0 .. 60), FORETOLD; NONE: no such ones.");
    LoanVans full = of(Edge.FULL);
    Edge.range("visits(i, 0)", i -> full.visits(i, 0), 0, 1, 23, 128, NONE);
    Edge.range("visits(23, n)", n -> full.visits(23, n), 0, 128, 60, 128, NONE);
    LoanVans x = of(AB + "title t 58; item t a; hold b t; van 1 a b;");
    due("now", x.visits(0, 0), 1);
    due("in a van behind one", x.visits(0, 1), 1);
    due("behind two", x.visits(0, 2), 3);
    due("and behind sixty", x.visits(0, 60), 3);
    x.days(1);
    due("in a van now", x.visits(0, 0), 0);
    due("behind one", x.visits(0, 1), 2);
    due("lent till day 60", x.visits(0, 59), 2);
    due("in a van on day 61", x.visits(0, 60), 2);
    LoanVans y = of(AB + "title t 57; item t a; hold b t; van 1 a b;", 2);
    due("at home behind the 59th", y.visits(0, 59), 3);
    due("in a van behind the 58th", y.visits(0, 58), 2);
  }

  static void promise50_zeroTheSame() {
    says("promise50", "and from ARRIVAL on back (0: the same); -2: there is no WAY there, none back; NONE: no such ones.");
    LoanVans x = of(Edge.FULL);
    Edge.range("thereAndBack(0, 7, day)", day -> x.thereAndBack(0, 7, day), 0, 8, 9999, 9, NONE);
    Edge.range("thereAndBack(from, 7, 0)", from -> x.thereAndBack(from, 7, 0), 0, 8, 7, 0, NONE);
    Edge.range("thereAndBack(7, to, 0)", to -> x.thereAndBack(7, to, 0), 0, 15, 7, 0, NONE);
    due("the same, without any van", of(AB).thereAndBack(1, 1, 9999), 0);
    due("no way there", of(NO_WAY).thereAndBack(0, 1, 0), -2);
    LoanVans far = of(Edge.FAR);
    due("no way there of 41 days", far.thereAndBack(0, 4, 3), -2);
    due("there in 40 days, and back", far.thereAndBack(0, 4, 4), 64);
    LoanVans y = of(NONE_BACK);
    due("there", y.arrival(3, 0, 2), 8);
    due("41 days back from there on", y.arrival(0, 3, 8), -2);
    due("40 days back from the next day on", y.arrival(0, 3, 9), 49);
    due("none back", y.thereAndBack(3, 0, 2), -2);
  }

  /** When one comes from a to d, worked out van by van. */
  private static int seldom(int day) {
    int d = (day + 4) / 5 * 5 + 1;
    d = (d + 6) / 7 * 7 + 1;
    return (d + 7) / 8 * 8 + 1;
  }

  static void promise51_n1To60ThisOneToo() {
    says("promise51", "The first DAY of the next n (1 .. 60; this one, too) from which on ARRIVAL takes the fewest DAYS; -2: there is none; NONE: no such ones.");
    LoanVans x = of(SELDOM);
    x.days(60);
    x.days(60);
    x.days(51);
    for (int day = 171; day < 232; day++) {
      due("arrival(0, 3, " + day + ")", x.arrival(0, 3, day), seldom(day));
    }
    due("59 days behind this one", x.bestDay(0, 3, 60), 230);
    int best = 171;
    for (int day = 172; day < 230; day++) {
      best = seldom(day) - day < seldom(best) - best ? day : best;
    }
    due("not among 59", x.bestDay(0, 3, 59), best);
    due("this one alone", x.bestDay(0, 3, 1), 171);
    Edge.beyond("bestDay(0, 3, n)", n -> x.bestDay(0, 3, n), 1, 60, NONE);
    x.days(59);
    due("this one, too", x.bestDay(0, 3, 60), 230);
    x.undo();
    x.days(58);
    due("the next one", x.bestDay(0, 3, 2), 230);
    due("this one alone", x.bestDay(0, 3, 1), 229);
  }

  static void promise51_noSuchOnesNone() {
    says("promise51", "-2: there is none; NONE: no such ones.");
    LoanVans x = of(Edge.FULL);
    Edge.range("bestDay(from, 7, 60)", from -> x.bestDay(from, 7, 60), 0, 0, 7, 0, NONE);
    Edge.range("bestDay(7, to, 60)", to -> x.bestDay(7, to, 60), 0, 7, 7, 0, NONE);
    due("none", of(NO_WAY).bestDay(0, 1, 60), -2);
    due("the same", of(NO_WAY, 9).bestDay(1, 1, 60), 9);
    LoanVans far = of(Edge.FAR, 3);
    due("none from this day on", far.bestDay(0, 4, 1), -2);
    due("one from the next on", far.bestDay(0, 4, 2), 4);
    due("of like ones the first", of(AB + "van 1 a b;", 1).bestDay(0, 1, 60), 2);
  }

  public static void main(String[] args) {
    String[] places = new String[30];
    for (int k = 0; k < 30; k++) {
      places[k] = "promise" + (22 + k);
    }
    Edge.run(EdgeQuestionTest.class, places);
  }
}
