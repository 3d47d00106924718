import java.util.NoSuchElementException;

/** Items lent between branches and carried by vans; ../shared/DOC.md says what each call answers. */
public final class LoanVans {
  public static final int NONE = -1;

  private static final int ABSENT = -2;
  private static final int REFUSED = -3;
  private static final int WANTED = -4;

  private static final int MOST_BRANCHES = 8;
  private static final int MOST_TITLES = 6;
  private static final int MOST_ITEMS = 24;
  private static final int MOST_VANS = 4;
  private static final int MOST_STOPS = 8;
  private static final int MOST_HOLDS = 40;
  private static final int MOST_TAPE = 900;
  private static final int MOST_UNDONE = 12;
  private static final int MOST_DAYS = 60;
  private static final int MOST_ROOM = 9;
  private static final int LAST_DAY = 9999;
  private static final int WEEK = 7;
  private static final int FAR = 40;
  private static final int NEVER = 1000000000;

  private static final int AT_BRANCH = 0;
  private static final int IN_VAN = 1;
  private static final int LENT_OUT = 2;

  private static final int OPEN = 0;
  private static final int READY = 1;
  private static final int LENT = 2;
  private static final int OVER = 3;
  private static final int CANCELLED = 4;

  private final Reader reader = new Reader();
  private final World world = new World();
  private final World foretold = new World();
  private final Past past = new Past();
  private final Plan plan = world.plan;
  private final State state = world.state;
  private final Ways ways = world.ways;

  public LoanVans() {
  }

  // ---- the tape and the text

  public int feed(int a, int b, int c, int d, int e) {
    if (reader.size + 20 > MOST_TAPE) {
      return NONE;
    }
    reader.put(a);
    reader.put(b);
    reader.put(c);
    reader.put(d);
    reader.put(e);
    return reader.size;
  }

  public int text(int n) {
    if (n < 0 || n > reader.size) {
      return ABSENT;
    }
    // What is foretold is made anew by each question, so a faulty text may spoil that plan.
    boolean good = reader.readInto(foretold.plan, n);
    reader.size = 0;
    if (!good) {
      return NONE;
    }
    plan.copyFrom(foretold.plan);
    world.begin();
    past.clear();
    return plan.lines;
  }

  public int fault(int what) {
    switch (what) {
      case 0:
        return reader.fault;
      case 1:
        return reader.place;
      default:
        return NONE;
    }
  }

  // ---- what there is

  public int branch(int b, int what) throws IndexOutOfBoundsException, NoSuchElementException {
    if (!isBranch(b)) {
      throw new IndexOutOfBoundsException("no such branch");
    }
    switch (what) {
      case 0:
        return plan.shut[b] == NONE ? ABSENT : plan.shut[b];
      case 1:
        return state.countItems(AT_BRANCH, b);
      case 2:
        return state.countItems(LENT_OUT, b);
      case 3:
        return plan.countAtHome(b);
      case 4:
        return state.countOpenAt(b);
      default:
        throw new NoSuchElementException("no such what");
    }
  }

  public int title(int t, int what) throws IndexOutOfBoundsException, NoSuchElementException {
    if (!isTitle(t)) {
      throw new IndexOutOfBoundsException("no such title");
    }
    switch (what) {
      case 0:
        return plan.period[t];
      case 1:
        return plan.countOfTitle(t);
      case 2:
        return world.countFree(t);
      case 3:
        return state.countOpenOf(t);
      default:
        throw new NoSuchElementException("no such what");
    }
  }

  public int item(int i, int what) throws IndexOutOfBoundsException, NoSuchElementException {
    if (!isItem(i)) {
      throw new IndexOutOfBoundsException("no such item");
    }
    switch (what) {
      case 0:
        return plan.itemTitle[i];
      case 1:
        return plan.itemHome[i];
      case 2:
        return state.place[i];
      case 3:
        return state.spot[i];
      case 4:
        return state.itemHold[i];
      case 5:
        return state.due[i];
      case 6:
        return state.renewed[i];
      case 7:
        return state.legTo[i];
      case 8:
        return state.legDay[i];
      case 9:
        return state.countLoansOf(i);
      default:
        throw new NoSuchElementException("no such what");
    }
  }

  public int holdOf(int h, int what) throws IndexOutOfBoundsException, NoSuchElementException {
    if (!isHold(h)) {
      throw new IndexOutOfBoundsException("no such hold");
    }
    switch (what) {
      case 0:
        return state.holdBranch[h];
      case 1:
        return state.holdTitle[h];
      case 2:
        return state.stage[h];
      case 3:
        return state.holdItem[h];
      case 4:
        return state.dayTold[h];
      case 5:
        return state.dayLent[h];
      default:
        throw new NoSuchElementException("no such what");
    }
  }

  public int van(int v, int what) {
    if (!isVan(v)) {
      return NONE;
    }
    switch (what) {
      case 0:
        return plan.room[v];
      case 1:
        return plan.round[v];
      case 2:
        return plan.branchOn(v, state.day);
      case 3:
        return state.countItems(IN_VAN, v);
      case 4:
        return state.boarded[v];
      default:
        return NONE;
    }
  }

  public int stop(int v, int k) {
    return isStop(v, k) ? plan.stops[v][k] : NONE;
  }

  // ---- what changes, and can be undone

  public int hold(int b, int t) {
    if (!isBranch(b) || !isTitle(t)) {
      return NONE;
    }
    if (state.holds >= MOST_HOLDS) {
      return ABSENT;
    }
    past.keep(state);
    return state.addHold(b, t);
  }

  public boolean cancel(int h) {
    if (!isHold(h) || !state.isWaiting(h)) {
      return false;
    }
    past.keep(state);
    state.cancelHold(h);
    return true;
  }

  public int recall(int i) {
    if (!isItem(i)) {
      return NONE;
    }
    if (state.place[i] != LENT_OUT) {
      return ABSENT;
    }
    int sooner = plan.openFrom(state.spot[i], state.day + plan.grace);
    if (sooner < state.due[i]) {
      past.keep(state);
      state.due[i] = sooner;
    }
    return state.due[i];
  }

  public int renew(int i) {
    if (!isItem(i)) {
      return NONE;
    }
    if (state.place[i] != LENT_OUT) {
      return ABSENT;
    }
    if (state.renewed[i] >= plan.renews) {
      return REFUSED;
    }
    int t = plan.itemTitle[i];
    if (state.countOpenOf(t) > 0) {
      return WANTED;
    }
    past.keep(state);
    state.renewed[i]++;
    state.due[i] = plan.openFrom(state.spot[i], state.due[i] + plan.period[t]);
    return state.due[i];
  }

  public int days(int n) {
    if (!isWithin(n, 1, MOST_DAYS)) {
      return NONE;
    }
    past.keep(state);
    world.goDays(n);
    return state.day;
  }

  public int undo() {
    if (past.size == 0) {
      return NONE;
    }
    past.restore(state);
    return past.size;
  }

  // ---- who owes whom

  public int owed(int a, int b) {
    if (!isBranch(a) || !isBranch(b) || a == b) {
      return Integer.MIN_VALUE;
    }
    return world.countLoans(a, b) - world.countLoans(b, a);
  }

  public int loans(int home, int b) {
    return isBranch(home) && isBranch(b) ? world.countLoans(home, b) : NONE;
  }

  public int lender(int what) {
    if (!isWithin(what, 0, 1)) {
      return NONE;
    }
    if (plan.branches == 0) {
      return ABSENT;
    }
    int most = branchRanked(0);
    return what == 0 ? most : world.balance(most);
  }

  public int ranked(int k) {
    if (k < 0) {
      return NONE;
    }
    return k < plan.branches ? branchRanked(k) : ABSENT;
  }

  public int log(int k, int what) {
    if (k < 0 || !isWithin(what, 0, 3)) {
      return NONE;
    }
    if (k >= state.loanCount) {
      return ABSENT;
    }
    int h = state.loanHold[k];
    switch (what) {
      case 0:
        return h;
      case 1:
        return state.holdItem[h];
      case 2:
        return state.holdBranch[h];
      default:
        return state.dayLent[h];
    }
  }

  // ---- who waits

  public int queue(int t, int k) {
    if (!isTitle(t) || k < 0) {
      return NONE;
    }
    int seen = 0;
    for (int h = 0; h < state.holds; h++) {
      if (state.isOpenOf(h, t) && seen++ == k) {
        return h;
      }
    }
    return ABSENT;
  }

  public int inVan(int v, int k) {
    if (!isVan(v) || k < 0) {
      return NONE;
    }
    int seen = 0;
    for (int i = 0; i < plan.items; i++) {
      if (state.isThere(i, IN_VAN, v) && seen++ == k) {
        return i;
      }
    }
    return ABSENT;
  }

  public int waits(int b, int k) {
    if (!isBranch(b) || k < 0) {
      return NONE;
    }
    world.lineUp(b);
    return k < world.lineLength ? world.line[k] : ABSENT;
  }

  public int longest(int what) {
    if (!isWithin(what, 0, 1)) {
      return NONE;
    }
    // Holds are told in the order of the days, so the first by number was told first.
    for (int h = 0; h < state.holds; h++) {
      if (state.stage[h] == OPEN) {
        return what == 0 ? h : state.daysWaited(h);
      }
    }
    return ABSENT;
  }

  public int waited(int h) {
    if (!isHold(h)) {
      return NONE;
    }
    return state.stage[h] == CANCELLED ? ABSENT : state.daysWaited(h);
  }

  public int meanWait() {
    if (state.loanCount <= 0) {
      return ABSENT;
    }
    int sum = 0;
    for (int k = 0; k < state.loanCount; k++) {
      sum += state.daysWaited(state.loanHold[k]);
    }
    return Math.floorDiv(100 * sum, state.loanCount);
  }

  public int nextDue(int what) {
    if (!isWithin(what, 0, 1)) {
      return NONE;
    }
    int next = NONE;
    for (int i = 0; i < plan.items; i++) {
      if (state.place[i] == LENT_OUT && (next == NONE || state.due[i] < state.due[next])) {
        next = i;
      }
    }
    if (next == NONE) {
      return ABSENT;
    }
    return what == 0 ? next : state.due[next];
  }

  public int given(int t, int b) {
    if (!isTitle(t) || !isBranch(b)) {
      return NONE;
    }
    int i = world.nearestFree(t, b);
    return i == NONE ? ABSENT : i;
  }

  // ---- ways

  public int arrival(int from, int to, int day) {
    return isBranch(from) && isBranch(to) && isDay(day) ? orAbsent(ways.arrivalAt(from, to, day)) : NONE;
  }

  public int leg(int from, int to, int day, int what) {
    if (!isBranch(from) || !isBranch(to) || from == to || !isDay(day) || !isWithin(what, 0, 3)) {
      return NONE;
    }
    return ways.findLeg(from, to, day) ? ways.legPart(what) : ABSENT;
  }

  public int legs(int from, int to, int day) {
    return isBranch(from) && isBranch(to) && isDay(day) ? ways.goLegs(from, to, day, FAR) : NONE;
  }

  public int path(int from, int to, int day, int k, int what) {
    if (!isBranch(from) || !isBranch(to) || !isDay(day) || k < 0 || !isWithin(what, 0, 3)) {
      return NONE;
    }
    if (k >= FAR || ways.goLegs(from, to, day, k + 1) <= k) {
      return ABSENT;
    }
    return ways.legPart(what);
  }

  public int reach(int from, int day, int n) {
    if (!isBranch(from) || !isDay(day) || !isWithin(n, 0, FAR)) {
      return NONE;
    }
    int count = 0;
    for (int to = 0; to < plan.branches; to++) {
      if (ways.arrivalAt(from, to, day) <= day + n) {
        count++;
      }
    }
    return count;
  }

  public int farthest(int from, int what) {
    if (!isBranch(from) || !isWithin(what, 0, 1)) {
      return NONE;
    }
    int latest = from;
    for (int to = 0; to < plan.branches; to++) {
      int end = ways.arrivalAt(from, to, state.day);
      if (end != NEVER && end > ways.arrivalAt(from, latest, state.day)) {
        latest = to;
      }
    }
    return what == 0 ? latest : ways.arrivalAt(from, latest, state.day);
  }

  public int center(int what) {
    if (!isWithin(what, 0, 1)) {
      return NONE;
    }
    int middle = NONE;
    int fewest = NEVER;
    for (int from = 0; from < plan.branches; from++) {
      int sum = daysToAll(from);
      if (sum < fewest) {
        fewest = sum;
        middle = from;
      }
    }
    if (middle == NONE) {
      return ABSENT;
    }
    return what == 0 ? middle : fewest;
  }

  public int thereAndBack(int from, int to, int day) {
    if (!isBranch(from) || !isBranch(to) || !isDay(day)) {
      return NONE;
    }
    int there = ways.arrivalAt(from, to, day);
    int back = there == NEVER ? NEVER : ways.arrivalAt(to, from, there);
    return back == NEVER ? ABSENT : back - day;
  }

  public int bestDay(int from, int to, int n) {
    if (!isBranch(from) || !isBranch(to) || !isWithin(n, 1, MOST_DAYS)) {
      return NONE;
    }
    int best = ABSENT;
    int fewest = NEVER;
    for (int k = 0; k < n; k++) {
      int day = state.day + k;
      int end = ways.arrivalAt(from, to, day);
      if (end != NEVER && end - day < fewest) {
        fewest = end - day;
        best = day;
      }
    }
    return best;
  }

  // ---- vans

  public int meet(int v, int w) {
    if (!isVan(v) || !isVan(w) || v == w) {
      return NONE;
    }
    for (int k = 0; k < MOST_DAYS; k++) {
      int day = state.day + k;
      if (plan.branchOn(v, day) == plan.branchOn(w, day)) {
        return day;
      }
    }
    return ABSENT;
  }

  public int every(int v, int b) {
    if (!isVan(v) || !isBranch(b)) {
      return NONE;
    }
    int most = ABSENT;
    int last = NONE;
    // Two rounds show each of the gaps, that over the end of a round too.
    for (int day = 0; day < 2 * plan.round[v]; day++) {
      if (plan.branchOn(v, day) == b) {
        most = last == NONE ? most : Math.max(most, day - last);
        last = day;
      }
    }
    return most;
  }

  public int busiest(int what) {
    if (!isWithin(what, 0, 1)) {
      return NONE;
    }
    if (plan.vans == 0) {
      return ABSENT;
    }
    int most = 0;
    for (int v = 1; v < plan.vans; v++) {
      if (state.boarded[v] > state.boarded[most]) {
        most = v;
      }
    }
    return what == 0 ? most : state.boarded[most];
  }

  // ---- what is foretold

  public int lentOn(int h) {
    if (!isHold(h)) {
      return NONE;
    }
    foretold.copyFrom(world);
    return foretold.lentWithin(h);
  }

  public int ifHold(int b, int t) {
    if (!isBranch(b) || !isTitle(t)) {
      return NONE;
    }
    if (state.holds >= MOST_HOLDS) {
      return REFUSED;
    }
    foretold.copyFrom(world);
    return foretold.lentWithin(foretold.state.addHold(b, t));
  }

  public int ifCancelled(int h, int other) {
    if (!isHold(h) || !isHold(other) || h == other) {
      return NONE;
    }
    if (!state.isWaiting(other)) {
      return REFUSED;
    }
    foretold.copyFrom(world);
    foretold.state.cancelHold(other);
    return foretold.lentWithin(h);
  }

  public int ifNoVan(int h, int v) {
    if (!isHold(h) || !isVan(v)) {
      return NONE;
    }
    foretold.copyFrom(world);
    foretold.plan.round[v] = 0;
    return foretold.lentWithin(h);
  }

  public int ifStop(int h, int v, int k, int b) {
    if (!isHold(h) || !isStop(v, k) || !isBranch(b)) {
      return NONE;
    }
    foretold.copyFrom(world);
    foretold.plan.stops[v][k] = b;
    return foretold.lentWithin(h);
  }

  public int ifClosed(int h, int b, int weekday) {
    if (!isHold(h) || !isBranch(b) || !isWithin(weekday, NONE, WEEK - 1)) {
      return NONE;
    }
    foretold.copyFrom(world);
    foretold.plan.shut[b] = weekday;
    return foretold.lentWithin(h);
  }

  public int ifPeriod(int h, int t, int period) {
    if (!isHold(h) || !isTitle(t) || !isWithin(period, 1, MOST_DAYS)) {
      return NONE;
    }
    foretold.copyFrom(world);
    foretold.plan.period[t] = period;
    return foretold.lentWithin(h);
  }

  public int ifRoom(int n, int v, int room) {
    if (!isForetellable(n) || !isVan(v) || !isWithin(room, 0, MOST_ROOM)) {
      return NONE;
    }
    foretold.copyFrom(world);
    foretold.plan.room[v] = room;
    foretold.goDays(n);
    return foretold.state.loanCount;
  }

  public int served(int n) {
    if (!isForetellable(n)) {
      return NONE;
    }
    foretold.copyFrom(world);
    foretold.goDays(n);
    return foretold.state.loanCount;
  }

  public int where(int i, int n) {
    if (!isItem(i) || !isForetellable(n)) {
      return NONE;
    }
    foretold.copyFrom(world);
    foretold.goDays(n);
    return 10 * foretold.state.place[i] + foretold.state.spot[i];
  }

  public int astray(int n) {
    if (!isForetellable(n)) {
      return NONE;
    }
    foretold.copyFrom(world);
    foretold.goDays(n);
    return foretold.countAstray();
  }

  public int visits(int i, int n) {
    if (!isItem(i) || !isForetellable(n)) {
      return NONE;
    }
    foretold.copyFrom(world);
    int bits = foretold.state.branchBit(i);
    for (int k = 0; k < n; k++) {
      foretold.goDays(1);
      bits |= foretold.state.branchBit(i);
    }
    return bits;
  }

  // ---- how many

  public int count(int what) {
    switch (what) {
      case 0:
        return plan.lines;
      case 1:
        return plan.branches;
      case 2:
        return plan.titles;
      case 3:
        return plan.items;
      case 4:
        return plan.vans;
      case 5:
        return state.holds;
      case 6:
        return state.day;
      case 7:
        return plan.grace;
      case 8:
        return plan.renews;
      case 9:
        return past.size;
      case 10:
        return state.countStage(OPEN);
      case 11:
        return state.countStage(READY);
      case 12:
        return state.countStage(LENT);
      case 13:
        return reader.size;
      default:
        return NONE;
    }
  }

  // ---- helpers of the face

  private static boolean isWithin(int n, int least, int most) {
    return n >= least && n <= most;
  }

  private static boolean isDay(int day) {
    return isWithin(day, 0, LAST_DAY);
  }

  private static boolean isForetellable(int n) {
    return isWithin(n, 0, MOST_DAYS);
  }

  private static int orAbsent(int day) {
    return day == NEVER ? ABSENT : day;
  }

  private boolean isBranch(int b) {
    return b >= 0 && b < plan.branches;
  }

  private boolean isTitle(int t) {
    return t >= 0 && t < plan.titles;
  }

  private boolean isItem(int i) {
    return i >= 0 && i < plan.items;
  }

  private boolean isVan(int v) {
    return v >= 0 && v < plan.vans;
  }

  private boolean isStop(int v, int k) {
    return isVan(v) && k >= 0 && k < plan.round[v];
  }

  private boolean isHold(int h) {
    return h >= 0 && h < state.holds;
  }

  /** The branch that exactly k others go ahead of, by their balances. */
  private int branchRanked(int k) {
    for (int b = 0; b < plan.branches; b++) {
      if (countAhead(b) == k) {
        return b;
      }
    }
    return NONE;
  }

  private int countAhead(int b) {
    int own = world.balance(b);
    int ahead = 0;
    for (int other = 0; other < plan.branches; other++) {
      int its = world.balance(other);
      if (its > own || its == own && other < b) {
        ahead++;
      }
    }
    return ahead;
  }

  private int daysToAll(int from) {
    int sum = 0;
    for (int to = 0; to < plan.branches; to++) {
      int end = ways.arrivalAt(from, to, state.day);
      sum += end == NEVER ? FAR + 1 : end - state.day;
    }
    return sum;
  }

  /** What a text tells; nothing of it changes from day to day. */
  private static final class Plan {
    private int lines;
    private int branches;
    private int titles;
    private int items;
    private int vans;
    private int holds;
    private int grace;
    private int renews;
    private final int[] shut = new int[MOST_BRANCHES];
    private final int[] period = new int[MOST_TITLES];
    private final int[] itemTitle = new int[MOST_ITEMS];
    private final int[] itemHome = new int[MOST_ITEMS];
    private final int[] room = new int[MOST_VANS];
    private final int[] round = new int[MOST_VANS];
    private final int[][] stops = new int[MOST_VANS][MOST_STOPS];
    private final int[] holdBranch = new int[MOST_HOLDS];
    private final int[] holdTitle = new int[MOST_HOLDS];

    private Plan() {
      empty();
    }

    private void empty() {
      lines = 0;
      branches = 0;
      titles = 0;
      items = 0;
      vans = 0;
      holds = 0;
      grace = 3;
      renews = 1;
    }

    private void copyFrom(Plan other) {
      lines = other.lines;
      branches = other.branches;
      titles = other.titles;
      items = other.items;
      vans = other.vans;
      holds = other.holds;
      grace = other.grace;
      renews = other.renews;
      System.arraycopy(other.shut, 0, shut, 0, MOST_BRANCHES);
      System.arraycopy(other.period, 0, period, 0, MOST_TITLES);
      System.arraycopy(other.itemTitle, 0, itemTitle, 0, MOST_ITEMS);
      System.arraycopy(other.itemHome, 0, itemHome, 0, MOST_ITEMS);
      System.arraycopy(other.room, 0, room, 0, MOST_VANS);
      System.arraycopy(other.round, 0, round, 0, MOST_VANS);
      for (int v = 0; v < MOST_VANS; v++) {
        System.arraycopy(other.stops[v], 0, stops[v], 0, MOST_STOPS);
      }
      System.arraycopy(other.holdBranch, 0, holdBranch, 0, MOST_HOLDS);
      System.arraycopy(other.holdTitle, 0, holdTitle, 0, MOST_HOLDS);
    }

    /** NONE: the van has no stops, since it is left out of what is foretold. */
    private int branchOn(int v, int day) {
      int stopCount = round[v];
      return stopCount > 0 && day >= 0 ? stops[v][day % stopCount] : NONE;
    }

    private boolean isShut(int b, int day) {
      return shut[b] == day % WEEK;
    }

    /** The first day from one on on which a branch isn't shut: it is shut on one weekday at most. */
    private int openFrom(int b, int day) {
      return isShut(b, day) ? day + 1 : day;
    }

    private int countAtHome(int b) {
      int count = 0;
      for (int i = 0; i < items; i++) {
        if (itemHome[i] == b) {
          count++;
        }
      }
      return count;
    }

    private int countOfTitle(int t) {
      int count = 0;
      for (int i = 0; i < items; i++) {
        if (itemTitle[i] == t) {
          count++;
        }
      }
      return count;
    }
  }

  /** What changes from day to day: the items, the holds and the loans that were. */
  private static final class State {
    private int day;
    private int items;
    private int holds;
    private int loanCount;
    private final int[] place = new int[MOST_ITEMS];
    private final int[] spot = new int[MOST_ITEMS];
    private final int[] itemHold = new int[MOST_ITEMS];
    private final int[] due = new int[MOST_ITEMS];
    private final int[] renewed = new int[MOST_ITEMS];
    private final int[] legTo = new int[MOST_ITEMS];
    private final int[] legDay = new int[MOST_ITEMS];
    private final int[] holdBranch = new int[MOST_HOLDS];
    private final int[] holdTitle = new int[MOST_HOLDS];
    private final int[] stage = new int[MOST_HOLDS];
    private final int[] holdItem = new int[MOST_HOLDS];
    private final int[] dayTold = new int[MOST_HOLDS];
    private final int[] dayLent = new int[MOST_HOLDS];
    // A hold is lent once at most, so there are never more loans than holds.
    private final int[] loanHold = new int[MOST_HOLDS];
    private final int[] boarded = new int[MOST_VANS];

    private void begin(Plan plan) {
      day = 0;
      loanCount = 0;
      items = plan.items;
      for (int i = 0; i < items; i++) {
        itemHold[i] = ABSENT;
        putAt(i, plan.itemHome[i]);
      }
      holds = 0;
      for (int h = 0; h < plan.holds; h++) {
        addHold(plan.holdBranch[h], plan.holdTitle[h]);
      }
      for (int v = 0; v < MOST_VANS; v++) {
        boarded[v] = 0;
      }
    }

    private void copyFrom(State other) {
      day = other.day;
      items = other.items;
      holds = other.holds;
      loanCount = other.loanCount;
      System.arraycopy(other.place, 0, place, 0, items);
      System.arraycopy(other.spot, 0, spot, 0, items);
      System.arraycopy(other.itemHold, 0, itemHold, 0, items);
      System.arraycopy(other.due, 0, due, 0, items);
      System.arraycopy(other.renewed, 0, renewed, 0, items);
      System.arraycopy(other.legTo, 0, legTo, 0, items);
      System.arraycopy(other.legDay, 0, legDay, 0, items);
      System.arraycopy(other.holdBranch, 0, holdBranch, 0, holds);
      System.arraycopy(other.holdTitle, 0, holdTitle, 0, holds);
      System.arraycopy(other.stage, 0, stage, 0, holds);
      System.arraycopy(other.holdItem, 0, holdItem, 0, holds);
      System.arraycopy(other.dayTold, 0, dayTold, 0, holds);
      System.arraycopy(other.dayLent, 0, dayLent, 0, holds);
      System.arraycopy(other.loanHold, 0, loanHold, 0, loanCount);
      System.arraycopy(other.boarded, 0, boarded, 0, MOST_VANS);
    }

    /** An item is at a branch then, in no van and not lent; its hold stays. */
    private void putAt(int i, int b) {
      place[i] = AT_BRANCH;
      spot[i] = b;
      due[i] = ABSENT;
      renewed[i] = 0;
      legTo[i] = ABSENT;
      legDay[i] = ABSENT;
    }

    /** The new hold's number; NONE, and nothing is added, when there are no rows left. */
    private int addHold(int b, int t) {
      int h = holds;
      if (h >= MOST_HOLDS) {
        return NONE;
      }
      holdBranch[h] = b;
      holdTitle[h] = t;
      stage[h] = OPEN;
      holdItem[h] = ABSENT;
      dayTold[h] = day;
      dayLent[h] = ABSENT;
      holds++;
      return h;
    }

    private void cancelHold(int h) {
      int i = holdItem[h];
      if (i >= 0) {
        itemHold[i] = ABSENT;
      }
      stage[h] = CANCELLED;
    }

    private void giveItem(int h, int i) {
      stage[h] = READY;
      holdItem[h] = i;
      itemHold[i] = h;
    }

    private void lend(int h, int i, int dueDay) {
      stage[h] = LENT;
      dayLent[h] = day;
      place[i] = LENT_OUT;
      due[i] = dueDay;
      renewed[i] = 0;
      if (loanCount < MOST_HOLDS) {
        loanHold[loanCount] = h;
        loanCount++;
      }
    }

    private void takeBack(int i) {
      int h = itemHold[i];
      if (h >= 0) {
        stage[h] = OVER;
      }
      itemHold[i] = ABSENT;
      putAt(i, spot[i]);
    }

    private void board(int i, int v, int to, int leaveDay) {
      place[i] = IN_VAN;
      spot[i] = v;
      legTo[i] = to;
      legDay[i] = leaveDay;
      boarded[v]++;
    }

    private boolean isThere(int i, int itsPlace, int itsSpot) {
      return place[i] == itsPlace && spot[i] == itsSpot;
    }

    private boolean isFree(int i) {
      return place[i] == AT_BRANCH && itemHold[i] < 0;
    }

    /** Open or ready. */
    private boolean isWaiting(int h) {
      return stage[h] == OPEN || stage[h] == READY;
    }

    private boolean isOpenOf(int h, int t) {
      return stage[h] == OPEN && holdTitle[h] == t;
    }

    private int countItems(int itsPlace, int itsSpot) {
      int count = 0;
      for (int i = 0; i < items; i++) {
        if (isThere(i, itsPlace, itsSpot)) {
          count++;
        }
      }
      return count;
    }

    private int countOpenAt(int b) {
      int count = 0;
      for (int h = 0; h < holds; h++) {
        if (stage[h] == OPEN && holdBranch[h] == b) {
          count++;
        }
      }
      return count;
    }

    private int countOpenOf(int t) {
      int count = 0;
      for (int h = 0; h < holds; h++) {
        if (isOpenOf(h, t)) {
          count++;
        }
      }
      return count;
    }

    private int countStage(int which) {
      int count = 0;
      for (int h = 0; h < holds; h++) {
        if (stage[h] == which) {
          count++;
        }
      }
      return count;
    }

    private int countLoansOf(int i) {
      int count = 0;
      for (int k = 0; k < loanCount; k++) {
        if (holdItem[loanHold[k]] == i) {
          count++;
        }
      }
      return count;
    }

    /** Till it was lent, or till now. */
    private int daysWaited(int h) {
      int last = dayLent[h] == ABSENT ? day : dayLent[h];
      return last - dayTold[h];
    }

    private int branchBit(int i) {
      return place[i] == IN_VAN ? 0 : 1 << spot[i];
    }
  }

  /** The ways by the vans of a plan, as if these had room for all. */
  private static final class Ways {
    private final Plan plan;
    // Arrivals that were found already, row by row of a first day and a first branch. Two days in
    // a row are kept, since a leg is found by what can be reached from the next day on.
    private final int[] arrivals = new int[2 * MOST_BRANCHES * MOST_BRANCHES];
    private final int[] rowDay = new int[2 * MOST_BRANCHES];
    private final int[] lastBoarded = new int[MOST_VANS];
    private int legVan;
    private int legBoard;
    private int legTo;
    private int legDay;

    private Ways(Plan plan) {
      this.plan = plan;
      forgetAll();
    }

    /** Must be called when the plan becomes another one. */
    private void forgetAll() {
      for (int r = 0; r < 2 * MOST_BRANCHES; r++) {
        rowDay[r] = NONE;
      }
    }

    /** The arrival, NEVER without one. */
    private int arrivalAt(int from, int to, int day) {
      int r = (day & 1) * MOST_BRANCHES + from;
      int row = r * MOST_BRANCHES;
      if (rowDay[r] == day) {
        return arrivals[row + to];
      }
      rowDay[r] = day;
      beginRow(row, from, day);
      int missing = plan.branches - 1;
      for (int k = 0; k <= FAR && missing > 0; k++) {
        int now = day + k;
        // Whoever leaves a van can board any van that day, so all are left ahead of the first boarded.
        for (int v = 0; v < plan.vans; v++) {
          int b = plan.branchOn(v, now);
          if (b >= 0 && now - lastBoarded[v] < plan.round[v] && arrivals[row + b] > now) {
            arrivals[row + b] = now;
            missing--;
          }
        }
        for (int v = 0; v < plan.vans; v++) {
          int b = plan.branchOn(v, now);
          if (b >= 0 && arrivals[row + b] <= now) {
            lastBoarded[v] = now;
          }
        }
      }
      return arrivals[row + to];
    }

    private void beginRow(int row, int from, int day) {
      for (int b = 0; b < MOST_BRANCHES; b++) {
        arrivals[row + b] = NEVER;
      }
      arrivals[row + from] = day;
      // As if each van had been boarded so long ago that it can't be left any more.
      for (int v = 0; v < MOST_VANS; v++) {
        lastBoarded[v] = day - MOST_STOPS;
      }
    }

    /** The first leg is in legVan, legBoard, legTo and legDay then; false: there is none. */
    private boolean findLeg(int from, int to, int day) {
      int end = arrivalAt(from, to, day);
      for (int k = 0; k < FAR && from != to; k++) {
        int v = vanToBoard(from, to, day + k, end);
        if (v != NONE) {
          legVan = v;
          legBoard = day + k;
          legTo = plan.branchOn(v, day + k + 1);
          legDay = day + k + 1;
          return true;
        }
      }
      return false;
    }

    /**
     * The least van that is boarded that day by a way with that arrival; NONE: there is none. It is
     * left at its next stop: whoever stays in it longer could leave it there and board it again.
     */
    private int vanToBoard(int from, int to, int day, int end) {
      for (int v = 0; v < plan.vans && end != NEVER; v++) {
        if (plan.branchOn(v, day) == from) {
          int next = plan.branchOn(v, day + 1);
          if (next >= 0 && arrivalAt(next, to, day + 1) == end) {
            return v;
          }
        }
      }
      return NONE;
    }

    private int legPart(int what) {
      switch (what) {
        case 0:
          return legVan;
        case 1:
          return legBoard;
        case 2:
          return legTo;
        default:
          return legDay;
      }
    }

    /** Goes by first legs, so many at most: how many it went, the last one is found; ABSENT: no way. */
    private int goLegs(int from, int to, int day, int most) {
      int b = from;
      int d = day;
      int gone = 0;
      for (int k = 0; k < most && b != to; k++) {
        if (!findLeg(b, to, d)) {
          return ABSENT;
        }
        b = legTo;
        d = legDay;
        gone++;
      }
      return gone;
    }
  }

  /** A plan, the ways by its vans, and a state that goes from day to day by them. */
  private static final class World {
    private final Plan plan = new Plan();
    private final State state = new State();
    private final Ways ways = new Ways(plan);
    private final int[] line = new int[MOST_ITEMS];
    private int lineLength;

    private void begin() {
      state.begin(plan);
      ways.forgetAll();
    }

    private void copyFrom(World other) {
      plan.copyFrom(other.plan);
      state.copyFrom(other.state);
      ways.forgetAll();
    }

    private void goDays(int n) {
      for (int k = 0; k < n; k++) {
        goDay();
      }
    }

    private void goDay() {
      takeBackItems();
      giveItems();
      lendItems();
      for (int v = 0; v < plan.vans; v++) {
        leaveVan(v);
        boardVan(v);
      }
      state.day++;
    }

    private void takeBackItems() {
      for (int i = 0; i < state.items; i++) {
        if (state.place[i] == LENT_OUT && state.due[i] <= state.day) {
          state.takeBack(i);
        }
      }
    }

    private void giveItems() {
      for (int h = 0; h < state.holds; h++) {
        if (state.stage[h] == OPEN) {
          int i = nearestFree(state.holdTitle[h], state.holdBranch[h]);
          if (i >= 0) {
            state.giveItem(h, i);
          }
        }
      }
    }

    /** The free item of a title that can be at a branch first; NONE: none can be. */
    private int nearestFree(int t, int b) {
      int nearest = NONE;
      int soonest = NEVER;
      for (int i = 0; i < state.items; i++) {
        if (plan.itemTitle[i] == t && state.isFree(i)) {
          int end = ways.arrivalAt(state.spot[i], b, state.day);
          if (end < soonest) {
            soonest = end;
            nearest = i;
          }
        }
      }
      return nearest;
    }

    private void lendItems() {
      for (int h = 0; h < state.holds; h++) {
        int b = state.holdBranch[h];
        int i = state.holdItem[h];
        if (state.stage[h] == READY && i >= 0 && state.isThere(i, AT_BRANCH, b)
            && !plan.isShut(b, state.day)) {
          int period = plan.period[state.holdTitle[h]];
          state.lend(h, i, plan.openFrom(b, state.day + period));
        }
      }
    }

    /** Also from a van that is left out or goes elsewhere now: its items leave it as was meant. */
    private void leaveVan(int v) {
      for (int i = 0; i < state.items; i++) {
        if (state.isThere(i, IN_VAN, v) && state.legDay[i] == state.day) {
          state.putAt(i, state.legTo[i]);
        }
      }
    }

    private void boardVan(int v) {
      int b = plan.branchOn(v, state.day);
      if (b < 0) {
        return;
      }
      int room = plan.room[v] - state.countItems(IN_VAN, v);
      lineUp(b);
      for (int k = 0; k < lineLength && room > 0; k++) {
        int i = line[k];
        int goal = goalOf(i);
        int end = ways.arrivalAt(b, goal, state.day);
        if (ways.vanToBoard(b, goal, state.day, end) == v) {
          state.board(i, v, plan.branchOn(v, state.day + 1), state.day + 1);
          room--;
        }
      }
    }

    /** The items at a branch that have another one to go to are in line then, in their order. */
    private void lineUp(int b) {
      lineLength = 0;
      for (int h = 0; h < state.holds; h++) {
        if (state.stage[h] == READY && state.holdBranch[h] != b) {
          stepIntoLine(state.holdItem[h], b);
        }
      }
      for (int i = 0; i < state.items; i++) {
        if (state.isFree(i) && plan.itemHome[i] != b) {
          stepIntoLine(i, b);
        }
      }
    }

    private void stepIntoLine(int i, int b) {
      if (i >= 0 && state.isThere(i, AT_BRANCH, b) && lineLength < MOST_ITEMS) {
        line[lineLength] = i;
        lineLength++;
      }
    }

    private int goalOf(int i) {
      int h = state.itemHold[i];
      return h >= 0 ? state.holdBranch[h] : plan.itemHome[i];
    }

    /** The day on which a hold was lent, or will be; ABSENT: not within the days that are foretold. */
    private int lentWithin(int h) {
      if (h < 0) {
        return ABSENT;
      }
      for (int k = 0; k < MOST_DAYS && state.isWaiting(h); k++) {
        goDay();
      }
      return state.dayLent[h];
    }

    private int countFree(int t) {
      int count = 0;
      for (int i = 0; i < state.items; i++) {
        if (plan.itemTitle[i] == t && state.isFree(i)) {
          count++;
        }
      }
      return count;
    }

    private int countAstray() {
      int count = 0;
      for (int i = 0; i < state.items; i++) {
        if (state.place[i] != LENT_OUT && !state.isThere(i, AT_BRANCH, plan.itemHome[i])) {
          count++;
        }
      }
      return count;
    }

    private int countLoans(int home, int b) {
      int count = 0;
      for (int k = 0; k < state.loanCount; k++) {
        if (homeOfLoan(k) == home && branchOfLoan(k) == b) {
          count++;
        }
      }
      return count;
    }

    /** With all other branches together; what a branch lends to itself adds nothing. */
    private int balance(int b) {
      int sum = 0;
      for (int k = 0; k < state.loanCount; k++) {
        if (homeOfLoan(k) == b) {
          sum++;
        }
        if (branchOfLoan(k) == b) {
          sum--;
        }
      }
      return sum;
    }

    private int branchOfLoan(int k) {
      return state.holdBranch[state.loanHold[k]];
    }

    private int homeOfLoan(int k) {
      int i = state.holdItem[state.loanHold[k]];
      return i >= 0 ? plan.itemHome[i] : NONE;
    }
  }

  /** The states that can come back, the latest first; the eldest give way. */
  private static final class Past {
    private final State[] states = new State[MOST_UNDONE];
    private int next;
    private int size;

    private void clear() {
      size = 0;
    }

    private void keep(State now) {
      State row = states[next];
      if (row == null) {
        row = new State();
        states[next] = row;
      }
      row.copyFrom(now);
      next = (next + 1) % MOST_UNDONE;
      size = Math.min(size + 1, MOST_UNDONE);
    }

    private void restore(State now) {
      int last = (next + MOST_UNDONE - 1) % MOST_UNDONE;
      State row = states[last];
      if (size > 0 && row != null) {
        now.copyFrom(row);
        next = last;
        size--;
      }
    }
  }

  /** The tape, and what turns its bytes into a plan or finds the first fault. */
  private static final class Reader {
    private static final int NO_TOKEN = 0;
    private static final int END = 1;
    private static final int SEMICOLON = 2;
    private static final int NAME = 3;
    private static final int NUMBER = 4;
    private static final int BRANCH_WORD = 5;
    private static final int CLOSED_WORD = 6;
    private static final int TITLE_WORD = 7;
    private static final int ITEM_WORD = 8;
    private static final int VAN_WORD = 9;
    private static final int HOLD_WORD = 10;
    private static final int GRACE_WORD = 11;
    private static final int RENEWS_WORD = 12;

    private static final int WRONG_TOKEN = 1;
    private static final int BEYOND = 2;
    private static final int TOLD_ALREADY = 3;

    private static final int MOST_LETTERS = 6;
    // The letters and one digit more, 0, that no letter is: so words of unlike length are unlike.
    private static final int LETTERS = 27;
    private static final int TOO_MUCH = 1000;

    // In the order of their tokens, from BRANCH_WORD on.
    private final int[] lineWords = {
      codeOf("branch"), codeOf("closed"), codeOf("title"), codeOf("item"),
      codeOf("van"), codeOf("hold"), codeOf("grace"), codeOf("renews")
    };
    private final int[] tape = new int[MOST_TAPE];
    private final int[] branchNames = new int[MOST_BRANCHES];
    private final int[] titleNames = new int[MOST_TITLES];
    private int size;
    private int fault;
    private int place = NONE;
    private boolean graceTold;
    private boolean renewsTold;
    private int at;
    private int end;
    private int token;
    private int start;
    private int value;
    private Plan plan;

    private void put(int four) {
      for (int shift = 24; shift >= 0 && size < MOST_TAPE; shift -= 8) {
        tape[size] = four >>> shift & 255;
        size++;
      }
    }

    private boolean readInto(Plan target, int n) {
      begin(target, n);
      for (int k = 0; k < MOST_TAPE && fault == 0 && token != END; k++) {
        switch (token) {
          case BRANCH_WORD:
            readBranch();
            break;
          case TITLE_WORD:
            readTitle();
            break;
          case ITEM_WORD:
            readItem();
            break;
          case VAN_WORD:
            readVan();
            break;
          case HOLD_WORD:
            readHold();
            break;
          case GRACE_WORD:
            readGrace();
            break;
          case RENEWS_WORD:
            readRenews();
            break;
          default:
            fail(WRONG_TOKEN);
            break;
        }
        endLine();
      }
      return fault == 0;
    }

    private void begin(Plan target, int n) {
      plan = target;
      plan.empty();
      fault = 0;
      place = NONE;
      graceTold = false;
      renewsTold = false;
      at = 0;
      end = Math.min(n, size);
      advance();
    }

    private void endLine() {
      if (token != SEMICOLON) {
        fail(WRONG_TOKEN);
      }
      plan.lines++;
      advance();
    }

    private void readBranch() {
      if (!beginsRow(plan.branches, MOST_BRANCHES)) {
        return;
      }
      int name = takeNewName(branchNames, plan.branches);
      int shut = NONE;
      if (fault == 0 && token == CLOSED_WORD) {
        advance();
        shut = takeNumber(0, WEEK - 1);
      }
      branchNames[plan.branches] = name;
      plan.shut[plan.branches] = shut;
      plan.branches++;
    }

    private void readTitle() {
      if (!beginsRow(plan.titles, MOST_TITLES)) {
        return;
      }
      titleNames[plan.titles] = takeNewName(titleNames, plan.titles);
      plan.period[plan.titles] = takeNumber(1, MOST_DAYS);
      plan.titles++;
    }

    private void readItem() {
      if (!beginsRow(plan.items, MOST_ITEMS)) {
        return;
      }
      plan.itemTitle[plan.items] = takeToldName(titleNames, plan.titles);
      plan.itemHome[plan.items] = takeToldName(branchNames, plan.branches);
      plan.items++;
    }

    private void readHold() {
      if (!beginsRow(plan.holds, MOST_HOLDS)) {
        return;
      }
      plan.holdBranch[plan.holds] = takeToldName(branchNames, plan.branches);
      plan.holdTitle[plan.holds] = takeToldName(titleNames, plan.titles);
      plan.holds++;
    }

    private void readVan() {
      if (!beginsRow(plan.vans, MOST_VANS)) {
        return;
      }
      int v = plan.vans;
      plan.room[v] = takeNumber(1, MOST_ROOM);
      plan.round[v] = 0;
      for (int k = 0; k <= MOST_STOPS && fault == 0 && (k < 2 || token != SEMICOLON); k++) {
        readStop(v);
      }
      plan.vans++;
    }

    /** The name of one stop too many is looked up too: a name that isn't told is the lesser fault. */
    private void readStop(int v) {
      int k = plan.round[v];
      int b = numberOfName(branchNames, plan.branches);
      if (b == NONE) {
        fail(WRONG_TOKEN);
      } else if (k >= MOST_STOPS) {
        fail(BEYOND);
      } else {
        plan.stops[v][k] = b;
        plan.round[v] = k + 1;
        advance();
      }
    }

    private void readGrace() {
      if (graceTold) {
        fail(TOLD_ALREADY);
        return;
      }
      graceTold = true;
      advance();
      plan.grace = takeNumber(0, 30);
    }

    private void readRenews() {
      if (renewsTold) {
        fail(TOLD_ALREADY);
        return;
      }
      renewsTold = true;
      advance();
      plan.renews = takeNumber(0, 9);
    }

    /** Goes behind a line's word, unless there are already as many such lines as may be. */
    private boolean beginsRow(int count, int most) {
      if (count >= most) {
        fail(BEYOND);
        return false;
      }
      advance();
      return true;
    }

    private int takeNewName(int[] names, int count) {
      if (token != NAME) {
        fail(WRONG_TOKEN);
      } else if (numberOfName(names, count) != NONE) {
        fail(TOLD_ALREADY);
      }
      int name = value;
      advance();
      return name;
    }

    private int takeToldName(int[] names, int count) {
      int number = numberOfName(names, count);
      if (number == NONE) {
        fail(WRONG_TOKEN);
      }
      advance();
      return number;
    }

    private int takeNumber(int least, int most) {
      if (token != NUMBER) {
        fail(WRONG_TOKEN);
      } else if (value < least || value > most) {
        fail(BEYOND);
      }
      int number = value;
      advance();
      return number;
    }

    /** Which of the names the token is; NONE: it is none of them, or no name. */
    private int numberOfName(int[] names, int count) {
      for (int k = 0; k < count && token == NAME; k++) {
        if (names[k] == value) {
          return k;
        }
      }
      return NONE;
    }

    /** Only the first fault counts: what is read behind it is of no use. */
    private void fail(int which) {
      if (fault == 0) {
        fault = which;
        place = start;
      }
    }

    private void advance() {
      while (at < end && isBlank(tape[at])) {
        at++;
      }
      start = at;
      if (at >= end) {
        token = END;
      } else if (isLetter(tape[at])) {
        scanWord();
      } else if (isDigit(tape[at])) {
        scanNumber();
      } else {
        token = tape[at] == ';' ? SEMICOLON : NO_TOKEN;
        at++;
      }
    }

    private void scanWord() {
      value = 0;
      for (; at < end && isLetter(tape[at]); at++) {
        if (at - start < MOST_LETTERS) {
          value = value * LETTERS + tape[at] - 'a' + 1;
        }
      }
      token = at - start > MOST_LETTERS ? NO_TOKEN : tokenOfWord();
    }

    private void scanNumber() {
      value = 0;
      for (; at < end && isDigit(tape[at]); at++) {
        value = Math.min(value * 10 + tape[at] - '0', TOO_MUCH);
      }
      token = NUMBER;
    }

    private int tokenOfWord() {
      for (int k = 0; k < lineWords.length; k++) {
        if (lineWords[k] == value) {
          return BRANCH_WORD + k;
        }
      }
      return NAME;
    }

    /** A word as one number, its letters the digits; six letters fit into it. */
    private static int codeOf(String word) {
      int code = 0;
      for (int k = 0; k < word.length(); k++) {
        code = code * LETTERS + word.charAt(k) - 'a' + 1;
      }
      return code;
    }

    private static boolean isBlank(int c) {
      return c == 10 || c == 32;
    }

    private static boolean isLetter(int c) {
      return c >= 'a' && c <= 'z';
    }

    private static boolean isDigit(int c) {
      return c >= '0' && c <= '9';
    }
  }
}
