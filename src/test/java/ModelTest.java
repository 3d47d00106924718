import java.util.ArrayList;
import java.util.HashMap;
import java.util.List;
import java.util.Map;
import java.util.NoSuchElementException;

/**
 * Runs the same calls on LoanVans and on a plain model that follows the document's words one by one
 * (all legs tried, all of the state copied for each question), and tells where the answers differ.
 * The runs come from a fixed row of numbers, so they are the same each time.
 */
public final class ModelTest {
  private static final int RUNS = 500;
  /** What an object answers behind so many calls is free. */
  private static final int MOST_CALLS = 512;
  private static final int FIRST_THROW = -1000001;
  private static final int SECOND_THROW = -1000002;

  private static final int OPEN = 0, READY = 1, LENT = 2, OVER = 3, CANCELLED = 4;
  private static final int AT = 0, VAN = 1, OUT = 2;

  private static int wrong = 0;
  /** How many calls the object of this run has had; each is checked once. */
  private static int asked = 0;

  // ---- what a text tells

  static final class Branch {
    String name;
    int shut = -1;
  }

  static final class Title {
    String name;
    int period;
  }

  static final class Van {
    int room;
    List<Integer> stops = new ArrayList<>();

    int at(int day) {
      return stops.get(day % stops.size());
    }
  }

  static final class Item {
    int title, home, place = AT, where, hold = -2, due = -2, renewed, legTo = -2, legDay = -2, lent;
  }

  static final class Hold {
    int branch, title, stage = OPEN, item = -2, told, lent = -2;
  }

  static final class Loan {
    int hold, item, branch, day, home;
  }

  static final class Fault extends RuntimeException {
    final int which, place;

    Fault(int which, int place) {
      super("fault");
      this.which = which;
      this.place = place;
    }
  }

  /** All that a run is about at one moment. */
  static final class Model {
    int lines, grace = 3, renews = 1, day, missingVan = -1;
    List<Branch> branches = new ArrayList<>();
    List<Title> titles = new ArrayList<>();
    List<Van> vans = new ArrayList<>();
    List<Item> items = new ArrayList<>();
    List<Hold> holds = new ArrayList<>();
    List<Loan> loans = new ArrayList<>();
    int[] boarded = new int[4];
    Map<Integer, int[][]> found = new HashMap<>();

    Model copy() {
      Model m = new Model();
      m.lines = lines;
      m.grace = grace;
      m.renews = renews;
      m.day = day;
      m.missingVan = missingVan;
      for (Branch b : branches) {
        Branch c = new Branch();
        c.name = b.name;
        c.shut = b.shut;
        m.branches.add(c);
      }
      for (Title t : titles) {
        Title c = new Title();
        c.name = t.name;
        c.period = t.period;
        m.titles.add(c);
      }
      for (Van v : vans) {
        Van c = new Van();
        c.room = v.room;
        c.stops.addAll(v.stops);
        m.vans.add(c);
      }
      for (Item i : items) {
        Item c = new Item();
        c.title = i.title;
        c.home = i.home;
        c.place = i.place;
        c.where = i.where;
        c.hold = i.hold;
        c.due = i.due;
        c.renewed = i.renewed;
        c.legTo = i.legTo;
        c.legDay = i.legDay;
        c.lent = i.lent;
        m.items.add(c);
      }
      for (Hold h : holds) {
        Hold c = new Hold();
        c.branch = h.branch;
        c.title = h.title;
        c.stage = h.stage;
        c.item = h.item;
        c.told = h.told;
        c.lent = h.lent;
        m.holds.add(c);
      }
      m.loans.addAll(loans);
      m.boarded = boarded.clone();
      return m;
    }

    // ---- ways

    /** For each branch and day of the 40: the least day on which one can be at to; 0 is none. */
    int[][] ends(int to, int first) {
      int[][] known = found.get(first * 8 + to);
      if (known != null) {
        return known;
      }
      int last = first + 40;
      int[][] end = new int[branches.size()][42];
      for (int d = last; d >= first; d--) {
        for (int b = 0; b < branches.size(); b++) {
          int best = b == to ? d : Integer.MAX_VALUE;
          best = Math.min(best, d < last ? end[b][d + 1 - first] : best);
          for (int v = 0; v < vans.size(); v++) {
            Van van = vans.get(v);
            if (v == missingVan || van.at(d) != b) {
              continue;
            }
            for (int off = d + 1; off < d + van.stops.size() && off <= last; off++) {
              best = Math.min(best, end[van.at(off)][off - first]);
            }
          }
          end[b][d - first] = best;
        }
      }
      found.put(first * 8 + to, end);
      return end;
    }

    int arrival(int from, int to, int first) {
      int end = ends(to, first)[from][0];
      return end == Integer.MAX_VALUE ? -2 : end;
    }

    /** Van, day boarded, branch, day left; null without one. */
    int[] leg(int from, int to, int first) {
      int end = arrival(from, to, first);
      if (end == -2 || from == to) {
        return null;
      }
      int[][] ends = ends(to, first);
      for (int on = first; on <= end; on++) {
        for (int v = 0; v < vans.size(); v++) {
          Van van = vans.get(v);
          if (v == missingVan || van.at(on) != from) {
            continue;
          }
          for (int off = on + 1; off < on + van.stops.size() && off <= end; off++) {
            if (ends[van.at(off)][off - first] == end) {
              return new int[] {v, on, van.at(off), off};
            }
          }
        }
      }
      throw new IllegalStateException("a way without a first leg");
    }

    /** All first legs; null without a way. */
    List<int[]> way(int from, int to, int first) {
      List<int[]> way = new ArrayList<>();
      int b = from;
      int d = first;
      while (b != to) {
        int[] leg = leg(b, to, d);
        if (leg == null) {
          return null;
        }
        way.add(leg);
        b = leg[2];
        d = leg[3];
      }
      return way;
    }

    // ---- days

    int open(int b, int from) {
      int d = from;
      while (d % 7 == branches.get(b).shut) {
        d++;
      }
      return d;
    }

    boolean free(Item i) {
      return i.place == AT && i.hold == -2;
    }

    int given(int title, int b) {
      int best = -2;
      int least = 0;
      for (int i = 0; i < items.size(); i++) {
        Item it = items.get(i);
        if (it.title == title && free(it)) {
          int end = arrival(it.where, b, day);
          if (end != -2 && (best == -2 || end < least)) {
            best = i;
            least = end;
          }
        }
      }
      return best;
    }

    List<Integer> waiting(int b) {
      List<Integer> line = new ArrayList<>();
      for (Hold h : holds) {
        if (h.stage == READY) {
          Item it = items.get(h.item);
          if (it.place == AT && it.where == b && h.branch != b) {
            line.add(h.item);
          }
        }
      }
      for (int i = 0; i < items.size(); i++) {
        Item it = items.get(i);
        if (free(it) && it.where == b && it.home != b) {
          line.add(i);
        }
      }
      return line;
    }

    int inside(int v) {
      int n = 0;
      for (Item it : items) {
        if (it.place == VAN && it.where == v) {
          n++;
        }
      }
      return n;
    }

    void goDay() {
      for (Item it : items) {
        if (it.place == OUT && it.due <= day) {
          holds.get(it.hold).stage = OVER;
          it.place = AT;
          it.hold = -2;
          it.due = -2;
          it.renewed = 0;
        }
      }
      for (int h = 0; h < holds.size(); h++) {
        Hold hold = holds.get(h);
        int i = hold.stage == OPEN ? given(hold.title, hold.branch) : -2;
        if (i >= 0) {
          hold.stage = READY;
          hold.item = i;
          items.get(i).hold = h;
        }
      }
      for (int h = 0; h < holds.size(); h++) {
        lend(h);
      }
      for (int v = 0; v < vans.size(); v++) {
        drive(v);
      }
      day++;
    }

    void lend(int h) {
      Hold hold = holds.get(h);
      if (hold.stage != READY || branches.get(hold.branch).shut == day % 7) {
        return;
      }
      Item it = items.get(hold.item);
      if (it.place != AT || it.where != hold.branch) {
        return;
      }
      hold.stage = LENT;
      hold.lent = day;
      it.place = OUT;
      it.renewed = 0;
      it.lent++;
      it.due = open(hold.branch, day + titles.get(hold.title).period);
      Loan loan = new Loan();
      loan.hold = h;
      loan.item = hold.item;
      loan.branch = hold.branch;
      loan.day = day;
      loan.home = it.home;
      loans.add(loan);
    }

    void drive(int v) {
      for (Item it : items) {
        if (it.place == VAN && it.where == v && it.legDay == day) {
          it.place = AT;
          it.where = it.legTo;
          it.legTo = -2;
          it.legDay = -2;
        }
      }
      if (v == missingVan) {
        return;
      }
      int b = vans.get(v).at(day);
      for (int i : waiting(b)) {
        Item it = items.get(i);
        int[] leg = leg(b, it.hold >= 0 ? holds.get(it.hold).branch : it.home, day);
        if (leg != null && leg[0] == v && leg[1] == day && inside(v) < vans.get(v).room) {
          it.place = VAN;
          it.where = v;
          it.legTo = leg[2];
          it.legDay = leg[3];
          boarded[v]++;
        }
      }
    }

    Model later(int n) {
      Model m = copy();
      for (int k = 0; k < n; k++) {
        m.goDay();
      }
      return m;
    }

    int lentOn(int h) {
      return later(60).holds.get(h).lent;
    }

    void cancel(int h) {
      Hold hold = holds.get(h);
      hold.stage = CANCELLED;
      if (hold.item >= 0) {
        items.get(hold.item).hold = -2;
      }
    }

    boolean waits(int h) {
      return holds.get(h).stage == OPEN || holds.get(h).stage == READY;
    }

    int served() {
      int n = 0;
      for (Hold h : holds) {
        if (h.stage == LENT || h.stage == OVER) {
          n++;
        }
      }
      return n;
    }

    int lentFromTo(int home, int b) {
      int n = 0;
      for (Loan l : loans) {
        if (l.home == home && l.branch == b) {
          n++;
        }
      }
      return n;
    }

    int balance(int b) {
      int sum = 0;
      for (int o = 0; o < branches.size(); o++) {
        sum += o == b ? 0 : lentFromTo(b, o) - lentFromTo(o, b);
      }
      return sum;
    }

    List<Integer> ranking() {
      List<Integer> all = new ArrayList<>();
      for (int b = 0; b < branches.size(); b++) {
        all.add(b);
      }
      all.sort((x, y) -> balance(x) != balance(y) ? balance(y) - balance(x) : x - y);
      return all;
    }
  }

  // ---- the text, by its own plain reader

  static final class Text {
    static final String WORDS = " branch closed title item van hold grace renews ";
    final String s;
    int at;
    int start;
    String token;
    final Model m = new Model();
    boolean grace, renews;

    Text(String s) {
      this.s = s;
    }

    Model read() {
      next();
      while (!token.isEmpty()) {
        line();
        must(token.equals(";"));
        m.lines++;
        next();
      }
      for (Item it : m.items) {
        it.where = it.home;
      }
      return m;
    }

    void next() {
      while (at < s.length() && (s.charAt(at) == ' ' || s.charAt(at) == '\n')) {
        at++;
      }
      start = at;
      if (at == s.length()) {
        token = "";
        return;
      }
      String rest = s.substring(at);
      String of = rest.matches("(?s)[a-z].*") ? "[^a-z]" : rest.matches("(?s)[0-9].*") ? "[^0-9]" : "";
      token = of.isEmpty() ? rest.substring(0, 1) : rest.split(of, 2)[0];
      at += token.length();
    }

    void must(boolean good) {
      if (!good) {
        throw new Fault(1, start);
      }
    }

    void bound(boolean good) {
      if (!good) {
        throw new Fault(2, start);
      }
    }

    boolean name() {
      return token.matches("[a-z]{1,6}") && !WORDS.contains(" " + token + " ");
    }

    int branch() {
      for (int b = 0; b < m.branches.size(); b++) {
        if (m.branches.get(b).name.equals(token)) {
          return b;
        }
      }
      return -1;
    }

    int title() {
      for (int t = 0; t < m.titles.size(); t++) {
        if (m.titles.get(t).name.equals(token)) {
          return t;
        }
      }
      return -1;
    }

    int number(int least, int most) {
      must(token.matches("[0-9]+"));
      java.math.BigInteger n = new java.math.BigInteger(token);
      bound(n.compareTo(java.math.BigInteger.valueOf(least)) >= 0
          && n.compareTo(java.math.BigInteger.valueOf(most)) <= 0);
      next();
      return n.intValue();
    }

    int told(int found) {
      must(found >= 0);
      next();
      return found;
    }

    void line() {
      switch (token) {
        case "branch":
          bound(m.branches.size() < 8);
          next();
          must(name());
          if (branch() >= 0) {
            throw new Fault(3, start);
          }
          Branch b = new Branch();
          b.name = token;
          next();
          if (token.equals("closed")) {
            next();
            b.shut = number(0, 6);
          }
          m.branches.add(b);
          return;
        case "title":
          bound(m.titles.size() < 6);
          next();
          must(name());
          if (title() >= 0) {
            throw new Fault(3, start);
          }
          Title t = new Title();
          t.name = token;
          next();
          t.period = number(1, 60);
          m.titles.add(t);
          return;
        case "item":
          bound(m.items.size() < 24);
          next();
          Item it = new Item();
          it.title = told(title());
          it.home = told(branch());
          m.items.add(it);
          return;
        case "hold":
          bound(m.holds.size() < 40);
          next();
          Hold h = new Hold();
          h.branch = told(branch());
          h.title = told(title());
          m.holds.add(h);
          return;
        case "van":
          bound(m.vans.size() < 4);
          next();
          Van v = new Van();
          v.room = number(1, 9);
          while (v.stops.size() < 2 || !token.equals(";")) {
            must(branch() >= 0);
            bound(v.stops.size() < 8);
            v.stops.add(branch());
            next();
          }
          m.vans.add(v);
          return;
        case "grace":
          if (grace) {
            throw new Fault(3, start);
          }
          grace = true;
          next();
          m.grace = number(0, 30);
          return;
        case "renews":
          if (renews) {
            throw new Fault(3, start);
          }
          renews = true;
          next();
          m.renews = number(0, 9);
          return;
        default:
          must(false);
      }
    }
  }

  /** The whole face, by the model. */
  static final class Plain {
    Model m = new Model();
    StringBuilder tape = new StringBuilder();
    List<Model> past = new ArrayList<>();
    int fault, place = -1;

    int text(int n) {
      if (n < 0 || n > tape.length()) {
        return -2;
      }
      String s = tape.substring(0, n);
      tape.setLength(0);
      fault = 0;
      place = -1;
      try {
        m = new Text(s).read();
        past.clear();
        return m.lines;
      } catch (Fault f) {
        fault = f.which;
        place = f.place;
        return -1;
      }
    }

    void keep() {
      past.add(m.copy());
      if (past.size() > 12) {
        past.remove(0);
      }
    }

    boolean b(int... all) {
      for (int b : all) {
        if (b < 0 || b >= m.branches.size()) {
          return false;
        }
      }
      return true;
    }

    boolean t(int t) {
      return t >= 0 && t < m.titles.size();
    }

    boolean i(int i) {
      return i >= 0 && i < m.items.size();
    }

    boolean h(int... all) {
      for (int h : all) {
        if (h < 0 || h >= m.holds.size()) {
          return false;
        }
      }
      return true;
    }

    boolean v(int... all) {
      for (int v : all) {
        if (v < 0 || v >= m.vans.size()) {
          return false;
        }
      }
      return true;
    }

    boolean in(int n, int least, int most) {
      return n >= least && n <= most;
    }

    int branch(int b, int what) {
      if (!b(b)) {
        return FIRST_THROW;
      }
      if (!in(what, 0, 4)) {
        return SECOND_THROW;
      }
      int at = 0, out = 0, home = 0, open = 0;
      for (Item it : m.items) {
        at += it.place == AT && it.where == b ? 1 : 0;
        out += it.place == OUT && it.where == b ? 1 : 0;
        home += it.home == b ? 1 : 0;
      }
      for (Hold h : m.holds) {
        open += h.stage == OPEN && h.branch == b ? 1 : 0;
      }
      int shut = m.branches.get(b).shut;
      return new int[] {shut < 0 ? -2 : shut, at, out, home, open}[what];
    }

    int title(int t, int what) {
      if (!t(t)) {
        return FIRST_THROW;
      }
      if (!in(what, 0, 3)) {
        return SECOND_THROW;
      }
      int all = 0, free = 0, open = 0;
      for (Item it : m.items) {
        all += it.title == t ? 1 : 0;
        free += it.title == t && m.free(it) ? 1 : 0;
      }
      for (Hold h : m.holds) {
        open += h.stage == OPEN && h.title == t ? 1 : 0;
      }
      return new int[] {m.titles.get(t).period, all, free, open}[what];
    }

    int item(int i, int what) {
      if (!i(i)) {
        return FIRST_THROW;
      }
      if (!in(what, 0, 9)) {
        return SECOND_THROW;
      }
      Item it = m.items.get(i);
      return new int[] {it.title, it.home, it.place, it.where, it.hold, it.due, it.renewed, it.legTo,
          it.legDay, it.lent}[what];
    }

    int holdOf(int h, int what) {
      if (!h(h)) {
        return FIRST_THROW;
      }
      if (!in(what, 0, 5)) {
        return SECOND_THROW;
      }
      Hold x = m.holds.get(h);
      return new int[] {x.branch, x.title, x.stage, x.item, x.told, x.lent}[what];
    }

    int van(int v, int what) {
      if (!v(v) || !in(what, 0, 4)) {
        return -1;
      }
      Van x = m.vans.get(v);
      return new int[] {x.room, x.stops.size(), x.at(m.day), m.inside(v), m.boarded[v]}[what];
    }

    int hold(int b, int t) {
      if (!b(b) || !t(t)) {
        return -1;
      }
      if (m.holds.size() == 40) {
        return -2;
      }
      keep();
      return tell(m, b, t);
    }

    static int tell(Model m, int b, int t) {
      Hold h = new Hold();
      h.branch = b;
      h.title = t;
      h.told = m.day;
      m.holds.add(h);
      return m.holds.size() - 1;
    }

    int cancel(int h) {
      if (!h(h) || !m.waits(h)) {
        return 0;
      }
      keep();
      m.cancel(h);
      return 1;
    }

    int recall(int i) {
      if (!i(i)) {
        return -1;
      }
      Item it = m.items.get(i);
      if (it.place != OUT) {
        return -2;
      }
      int due = m.open(it.where, m.day + m.grace);
      if (due < it.due) {
        keep();
        it.due = due;
      }
      return it.due;
    }

    int renew(int i) {
      if (!i(i)) {
        return -1;
      }
      Item it = m.items.get(i);
      if (it.place != OUT) {
        return -2;
      }
      if (it.renewed >= m.renews) {
        return -3;
      }
      if (title(it.title, 3) > 0) {
        return -4;
      }
      keep();
      it.renewed++;
      it.due = m.open(it.where, it.due + m.titles.get(it.title).period);
      return it.due;
    }

    int days(int n) {
      if (!in(n, 1, 60)) {
        return -1;
      }
      keep();
      for (int k = 0; k < n; k++) {
        m.goDay();
      }
      return m.day;
    }

    int undo() {
      if (past.isEmpty()) {
        return -1;
      }
      m = past.remove(past.size() - 1);
      return past.size();
    }

    int nth(List<Integer> all, int k) {
      return k < all.size() ? all.get(k) : -2;
    }

    int queue(int t, int k) {
      if (!t(t) || k < 0) {
        return -1;
      }
      List<Integer> all = new ArrayList<>();
      for (int h = 0; h < m.holds.size(); h++) {
        if (m.holds.get(h).stage == OPEN && m.holds.get(h).title == t) {
          all.add(h);
        }
      }
      return nth(all, k);
    }

    int inVan(int v, int k) {
      if (!v(v) || k < 0) {
        return -1;
      }
      List<Integer> all = new ArrayList<>();
      for (int i = 0; i < m.items.size(); i++) {
        if (m.items.get(i).place == VAN && m.items.get(i).where == v) {
          all.add(i);
        }
      }
      return nth(all, k);
    }

    int path(int from, int to, int day, int k, int what) {
      if (!b(from, to) || !in(day, 0, 9999) || k < 0 || !in(what, 0, 3)) {
        return -1;
      }
      List<int[]> way = m.way(from, to, day);
      return way == null || k >= way.size() ? -2 : way.get(k)[what];
    }

    int leg(int from, int to, int day, int what) {
      return from == to ? -1 : path(from, to, day, 0, what);
    }

    int legs(int from, int to, int day) {
      if (!b(from, to) || !in(day, 0, 9999)) {
        return -1;
      }
      List<int[]> way = m.way(from, to, day);
      return way == null ? -2 : way.size();
    }

    int reach(int from, int day, int n) {
      if (!b(from) || !in(day, 0, 9999) || !in(n, 0, 40)) {
        return -1;
      }
      int count = 0;
      for (int to = 0; to < m.branches.size(); to++) {
        int end = m.arrival(from, to, day);
        count += end != -2 && end - day <= n ? 1 : 0;
      }
      return count;
    }

    int farthest(int from, int what) {
      if (!b(from) || !in(what, 0, 1)) {
        return -1;
      }
      int best = -1;
      int last = -1;
      for (int to = 0; to < m.branches.size(); to++) {
        int end = m.arrival(from, to, m.day);
        if (end > last) {
          best = to;
          last = end;
        }
      }
      return what == 0 ? best : last;
    }

    int center(int what) {
      if (!in(what, 0, 1)) {
        return -1;
      }
      int best = -2;
      int least = -2;
      for (int from = 0; from < m.branches.size(); from++) {
        int sum = 0;
        for (int to = 0; to < m.branches.size(); to++) {
          int end = m.arrival(from, to, m.day);
          sum += end == -2 ? 41 : end - m.day;
        }
        if (best == -2 || sum < least) {
          best = from;
          least = sum;
        }
      }
      return what == 0 ? best : least;
    }

    int thereAndBack(int from, int to, int day) {
      if (!b(from, to) || !in(day, 0, 9999)) {
        return -1;
      }
      int there = m.arrival(from, to, day);
      int back = there == -2 ? -2 : m.arrival(to, from, there);
      return back == -2 ? -2 : back - day;
    }

    int bestDay(int from, int to, int n) {
      if (!b(from, to) || !in(n, 1, 60)) {
        return -1;
      }
      int best = -2;
      int least = 99;
      for (int d = m.day; d < m.day + n; d++) {
        int end = m.arrival(from, to, d);
        if (end != -2 && end - d < least) {
          best = d;
          least = end - d;
        }
      }
      return best;
    }

    int meet(int v, int w) {
      if (!v(v, w) || v == w) {
        return -1;
      }
      for (int d = m.day; d < m.day + 60; d++) {
        if (m.vans.get(v).at(d) == m.vans.get(w).at(d)) {
          return d;
        }
      }
      return -2;
    }

    int every(int v, int b) {
      if (!v(v) || !b(b)) {
        return -1;
      }
      int most = -2;
      for (int d = 0; d < 8; d++) {
        if (m.vans.get(v).at(d) == b) {
          int e = d + 1;
          while (m.vans.get(v).at(e) != b) {
            e++;
          }
          most = Math.max(most, e - d);
        }
      }
      return most;
    }

    int longest(int what) {
      if (!in(what, 0, 1)) {
        return -1;
      }
      int best = -2;
      for (int h = 0; h < m.holds.size(); h++) {
        if (m.holds.get(h).stage == OPEN && (best < 0 || m.holds.get(h).told < m.holds.get(best).told)) {
          best = h;
        }
      }
      return best < 0 || what == 0 ? best : m.day - m.holds.get(best).told;
    }

    int lender(int what) {
      if (!in(what, 0, 1)) {
        return -1;
      }
      if (m.branches.isEmpty()) {
        return -2;
      }
      int best = m.ranking().get(0);
      return what == 0 ? best : m.balance(best);
    }

    int nextDue(int what) {
      if (!in(what, 0, 1)) {
        return -1;
      }
      int best = -2;
      for (int i = 0; i < m.items.size(); i++) {
        if (m.items.get(i).place == OUT && (best < 0 || m.items.get(i).due < m.items.get(best).due)) {
          best = i;
        }
      }
      return best < 0 || what == 0 ? best : m.items.get(best).due;
    }

    int busiest(int what) {
      if (!in(what, 0, 1)) {
        return -1;
      }
      int best = -2;
      for (int v = 0; v < m.vans.size(); v++) {
        if (best < 0 || m.boarded[v] > m.boarded[best]) {
          best = v;
        }
      }
      return best < 0 || what == 0 ? best : m.boarded[best];
    }

    int ifHold(int b, int t) {
      if (!b(b) || !t(t)) {
        return -1;
      }
      if (m.holds.size() == 40) {
        return -3;
      }
      Model x = m.copy();
      return x.lentOn(tell(x, b, t));
    }

    int ifCancelled(int h, int other) {
      if (!h(h, other) || h == other) {
        return -1;
      }
      if (!m.waits(other)) {
        return -3;
      }
      Model x = m.copy();
      x.cancel(other);
      return x.lentOn(h);
    }

    int ifNoVan(int h, int v) {
      if (!h(h) || !v(v)) {
        return -1;
      }
      Model x = m.copy();
      x.missingVan = v;
      return x.lentOn(h);
    }

    int ifStop(int h, int v, int k, int b) {
      if (!h(h) || !v(v) || !b(b) || !in(k, 0, m.vans.get(v).stops.size() - 1)) {
        return -1;
      }
      Model x = m.copy();
      x.vans.get(v).stops.set(k, b);
      return x.lentOn(h);
    }

    int ifClosed(int h, int b, int weekday) {
      if (!h(h) || !b(b) || !in(weekday, -1, 6)) {
        return -1;
      }
      Model x = m.copy();
      x.branches.get(b).shut = weekday;
      return x.lentOn(h);
    }

    int ifPeriod(int h, int t, int period) {
      if (!h(h) || !t(t) || !in(period, 1, 60)) {
        return -1;
      }
      Model x = m.copy();
      x.titles.get(t).period = period;
      return x.lentOn(h);
    }

    int ifRoom(int n, int v, int room) {
      if (!in(n, 0, 60) || !v(v) || !in(room, 0, 9)) {
        return -1;
      }
      Model x = m.copy();
      x.vans.get(v).room = room;
      return x.later(n).served();
    }

    int astray(int n) {
      if (!in(n, 0, 60)) {
        return -1;
      }
      int count = 0;
      for (Item it : m.later(n).items) {
        count += it.place == VAN || it.place == AT && it.where != it.home ? 1 : 0;
      }
      return count;
    }

    int visits(int i, int n) {
      if (!i(i) || !in(n, 0, 60)) {
        return -1;
      }
      Model x = m.copy();
      int bits = 0;
      for (int k = 0; k <= n; k++) {
        Item it = x.items.get(i);
        bits |= it.place == VAN ? 0 : 1 << it.where;
        x.goDay();
      }
      return bits;
    }

    int where(int i, int n) {
      if (!i(i) || !in(n, 0, 60)) {
        return -1;
      }
      Item it = m.later(n).items.get(i);
      return 10 * it.place + it.where;
    }

    int waited(int h) {
      if (!h(h)) {
        return -1;
      }
      Hold x = m.holds.get(h);
      return x.stage == CANCELLED ? -2 : (x.lent >= 0 ? x.lent : m.day) - x.told;
    }

    int meanWait() {
      int sum = 0;
      int n = 0;
      for (Hold h : m.holds) {
        if (h.lent >= 0) {
          sum += h.lent - h.told;
          n++;
        }
      }
      return n == 0 ? -2 : 100 * sum / n;
    }

    int log(int k, int what) {
      if (k < 0 || !in(what, 0, 3)) {
        return -1;
      }
      if (k >= m.loans.size()) {
        return -2;
      }
      Loan l = m.loans.get(k);
      return new int[] {l.hold, l.item, l.branch, l.day}[what];
    }

    int count(int what) {
      if (!in(what, 0, 13)) {
        return -1;
      }
      int[] stages = new int[5];
      for (Hold h : m.holds) {
        stages[h.stage]++;
      }
      return new int[] {m.lines, m.branches.size(), m.titles.size(), m.items.size(), m.vans.size(),
          m.holds.size(), m.day, m.grace, m.renews, past.size(), stages[OPEN], stages[READY],
          stages[LENT], tape.length()}[what];
    }
  }

  // ---- runs of calls

  static final class Dice {
    long state;

    Dice(long seed) {
      state = seed * 2862933555777941757L + 3037000493L;
    }

    int below(int n) {
      state = state * 6364136223846793005L + 1442695040888963407L;
      return (int) ((state >>> 33) % n);
    }

    /** Mostly from 0 to n - 1, now and then just beyond. */
    int near(int n) {
      return below(12) == 0 ? (below(2) == 0 ? -1 : n) : n == 0 ? 0 : below(n);
    }
  }

  static String text(Dice d) {
    int branches = 1 + d.below(8);
    int titles = 1 + d.below(4);
    int mostStops = 2 + d.below(7);
    StringBuilder s = new StringBuilder();
    for (int b = 0; b < branches; b++) {
      s.append("branch ").append((char) ('a' + b));
      s.append(d.below(3) == 0 ? " closed " + d.below(7) : "").append(';');
    }
    for (int t = 0; t < titles; t++) {
      s.append("title ").append((char) ('a' + t)).append(' ').append(1 + d.below(d.below(3) == 0 ? 60 : 9)).append(";\n");
    }
    for (int i = d.below(d.below(2) == 0 ? 25 : 6); i > 0; i--) {
      s.append("item ").append((char) ('a' + d.below(titles))).append(' ').append((char) ('a' + d.below(branches))).append(';');
    }
    for (int v = d.below(5); v > 0; v--) {
      s.append("van ").append(1 + d.below(d.below(3) == 0 ? 9 : 2));
      for (int k = 2 + d.below(mostStops - 1); k > 0; k--) {
        s.append(' ').append((char) ('a' + d.below(branches)));
      }
      s.append(';');
    }
    for (int h = d.below(d.below(3) == 0 ? 41 : 12); h > 0; h--) {
      s.append("hold ").append((char) ('a' + d.below(branches))).append(' ').append((char) ('a' + d.below(titles))).append(';');
    }
    s.append(d.below(2) == 0 ? "grace " + d.below(8) + ";" : "");
    s.append(d.below(2) == 0 ? "renews " + d.below(5) + ";" : "");
    return s.length() > 900 ? text(d) : s.toString();
  }

  /** Now and then a text with a fault, or with a token more, another one, or one less. */
  static String spoilt(Dice d, String text) {
    String[] parts = {";", "a", "b", "zz", "sevenly", "closed 3", "closed", "branch", "title", "item", "van", "hold",
        "grace", "renews", "0", "1", "61", "7", "10", "99999999999", "A", "\u00e9", "branch x", "title y 61",
        "grace 31;", "renews 10;", "van 3 a a;", "hold a a;", "item a a;", "branch a;", "grace 4;", "renews 2;"};
    StringBuilder s = new StringBuilder(text);
    for (int k = 1 + d.below(3); k > 0; k--) {
      int at = d.below(s.length() + 1);
      switch (d.below(4)) {
        case 0:
          s.insert(at, parts[d.below(parts.length)]);
          break;
        case 1:
          s.insert(at, " " + parts[d.below(parts.length)] + " ");
          break;
        case 2:
          s.setLength(Math.max(at, s.length() - 20));
          break;
        default:
          s.delete(at, Math.min(s.length(), at + 1 + d.below(3)));
          break;
      }
    }
    return s.toString();
  }

  static void feed(LoanVans x, Plain y, String s, StringBuilder trail) {
    for (int at = 0; at < s.length(); at += 20) {
      int[] n = new int[5];
      for (int k = 0; k < 20; k++) {
        n[k / 4] = n[k / 4] << 8 | (at + k < s.length() ? s.charAt(at + k) : ' ');
      }
      int got = x.feed(n[0], n[1], n[2], n[3], n[4]);
      if (y.tape.length() <= 880) {
        for (int k = 0; k < 20; k++) {
          y.tape.append((char) (n[k / 4] >>> 24 - k % 4 * 8 & 255));
        }
        check("feed", got, y.tape.length(), trail);
      } else {
        check("feed", got, -1, trail);
      }
    }
    trail.append("\n  text: ").append(s);
  }

  static void check(String call, int got, int due, StringBuilder trail) {
    asked++;
    if (got != due && asked <= MOST_CALLS) {
      wrong++;
      if (wrong <= 10) {
        System.out.println(call + " answered " + got + ", due is " + due + ", behind" + trail);
      }
    }
  }

  interface Asked {
    int answer();
  }

  static int answer(Asked asked) {
    try {
      return asked.answer();
    } catch (IndexOutOfBoundsException e) {
      return e.getClass() == IndexOutOfBoundsException.class ? FIRST_THROW : FIRST_THROW - 10;
    } catch (NoSuchElementException e) {
      return SECOND_THROW;
    }
  }

  static void oneCall(Dice d, LoanVans x, Plain y, StringBuilder trail) {
    int b = d.near(y.m.branches.size()), c = d.near(y.m.branches.size());
    int t = d.near(y.m.titles.size()), i = d.near(y.m.items.size());
    int h = d.near(y.m.holds.size()), o = d.near(y.m.holds.size());
    int v = d.near(y.m.vans.size()), w = d.near(y.m.vans.size());
    int k = d.near(5), what = d.near(4), bit = d.near(2), n = d.near(61), weekday = d.near(7);
    int day = d.below(9) == 0 ? 9999 + d.below(3) : d.below(9) == 0 ? d.below(3) - 1 : y.m.day + d.below(30);
    int stop = d.near(v >= 0 && v < y.m.vans.size() ? y.m.vans.get(v).stops.size() : 2);
    String args = " b" + b + " c" + c + " t" + t + " i" + i + " h" + h + " o" + o + " v" + v + " w" + w + " k" + k
        + " what" + what + " bit" + bit + " n" + n + " day" + day + " stop" + stop + " weekday" + weekday;
    int kind = d.below(70);
    switch (kind) {
      case 0:
      case 1:
      case 2:
      case 3:
      case 4:
        int go = d.below(3) == 0 ? n : 1 + d.below(4);
        trail.append("\n  days(").append(go).append(')');
        check("days", x.days(go), y.days(go), trail);
        break;
      case 5:
      case 6:
      case 7:
        trail.append("\n  hold(").append(b).append(", ").append(t).append(')');
        check("hold", x.hold(b, t), y.hold(b, t), trail);
        break;
      case 8:
      case 9:
        trail.append("\n  cancel(").append(h).append(')');
        check("cancel", x.cancel(h) ? 1 : 0, y.cancel(h), trail);
        break;
      case 10:
      case 11:
        trail.append("\n  recall(").append(i).append(')');
        check("recall", x.recall(i), y.recall(i), trail);
        break;
      case 12:
      case 13:
        trail.append("\n  renew(").append(i).append(')');
        check("renew", x.renew(i), y.renew(i), trail);
        break;
      case 14:
      case 15:
        trail.append("\n  undo()");
        check("undo", x.undo(), y.undo(), trail);
        break;
      case 16:
        if (d.below(8) == 0) {
          String s = d.below(2) == 0 ? text(d) : spoilt(d, text(d));
          feed(x, y, s, trail);
          int length = d.below(3) == 0 ? d.near(s.length() + 1) : s.length();
          trail.append("\n  text(").append(length).append(')');
          check("text", x.text(length), y.text(length), trail);
        }
        check("fault", x.fault(bit), bit == 0 ? y.fault : bit == 1 ? y.place : -1, trail);
        break;
      default:
        ask(kind, args, new int[] {b, c, t, i, h, o, v, w, k, what, bit, n, day, stop, weekday}, d, x, y, trail);
        break;
    }
  }

  static void ask(int kind, String args, int[] a, Dice d, LoanVans x, Plain y, StringBuilder trail) {
    int b = a[0], c = a[1], t = a[2], i = a[3], h = a[4], o = a[5], v = a[6], w = a[7], k = a[8], what = a[9], bit = a[10];
    int n = a[11], day = a[12], stop = a[13], weekday = a[14];
    int wide = d.near(14);
    switch (kind) {
      case 17: check("branch" + args, answer(() -> x.branch(b, what)), y.branch(b, what), trail); break;
      case 18: check("branch" + args, answer(() -> x.branch(b, k)), y.branch(b, k), trail); break;
      case 19: check("title" + args, answer(() -> x.title(t, what)), y.title(t, what), trail); break;
      case 20:
      case 21: check("item " + wide + args, answer(() -> x.item(i, wide)), y.item(i, wide), trail); break;
      case 22: check("holdOf " + wide + args, answer(() -> x.holdOf(h, wide / 2)), y.holdOf(h, wide / 2), trail); break;
      case 23: check("van" + args, x.van(v, k), y.van(v, k), trail); break;
      case 24: check("stop" + args, x.stop(v, stop),
          y.v(v) && y.in(stop, 0, y.m.vans.get(v).stops.size() - 1) ? y.m.vans.get(v).stops.get(stop) : -1, trail); break;
      case 25: check("owed" + args, x.owed(b, c),
          y.b(b, c) && b != c ? y.m.lentFromTo(b, c) - y.m.lentFromTo(c, b) : Integer.MIN_VALUE, trail); break;
      case 26: check("loans" + args, x.loans(b, c), y.b(b, c) ? y.m.lentFromTo(b, c) : -1, trail); break;
      case 27: check("queue" + args, x.queue(t, k), y.queue(t, k), trail); break;
      case 28: check("inVan" + args, x.inVan(v, k), y.inVan(v, k), trail); break;
      case 29: check("waits" + args, x.waits(b, k), y.b(b) && k >= 0 ? y.nth(y.m.waiting(b), k) : -1, trail); break;
      case 30: check("arrival" + args, x.arrival(b, c, day),
          y.b(b, c) && y.in(day, 0, 9999) ? y.m.arrival(b, c, day) : -1, trail); break;
      case 31:
      case 32: check("leg" + args, x.leg(b, c, day, what), y.leg(b, c, day, what), trail); break;
      case 33: check("legs" + args, x.legs(b, c, day), y.legs(b, c, day), trail); break;
      case 34: check("given" + args, x.given(t, b), y.t(t) && y.b(b) ? y.m.given(t, b) : -1, trail); break;
      case 35: check("lentOn" + args, x.lentOn(h), y.h(h) ? y.m.lentOn(h) : -1, trail); break;
      case 36: check("ifHold" + args, x.ifHold(b, t), y.ifHold(b, t), trail); break;
      case 37: check("ifCancelled" + args, x.ifCancelled(h, o), y.ifCancelled(h, o), trail); break;
      case 38: check("ifNoVan" + args, x.ifNoVan(h, v), y.ifNoVan(h, v), trail); break;
      case 39: check("where" + args, x.where(i, n), y.where(i, n), trail); break;
      case 40: check("served" + args, x.served(n), y.in(n, 0, 60) ? y.m.later(n).served() : -1, trail); break;
      case 41: check("meet" + args, x.meet(v, w), y.meet(v, w), trail); break;
      case 42: check("every" + args, x.every(v, b), y.every(v, b), trail); break;
      case 43: check("farthest" + args, x.farthest(b, bit), y.farthest(b, bit), trail); break;
      case 44: check("longest" + args, x.longest(bit), y.longest(bit), trail); break;
      case 45: check("lender" + args, x.lender(bit), y.lender(bit), trail); break;
      case 46: check("nextDue" + args, x.nextDue(bit), y.nextDue(bit), trail); break;
      case 47:
      case 48: check("path" + args, x.path(b, c, day, k, what), y.path(b, c, day, k, what), trail); break;
      case 49: check("reach" + args, x.reach(b, day, n - 10), y.reach(b, day, n - 10), trail); break;
      case 50: check("center" + args, x.center(bit), y.center(bit), trail); break;
      case 51:
      case 52: check("ifStop" + args, x.ifStop(h, v, stop, b), y.ifStop(h, v, stop, b), trail); break;
      case 53: check("ifRoom" + args, x.ifRoom(n, v, wide - 2), y.ifRoom(n, v, wide - 2), trail); break;
      case 54: check("astray" + args, x.astray(n), y.astray(n), trail); break;
      case 55: check("waited" + args, x.waited(h), y.waited(h), trail); break;
      case 56: check("meanWait" + args, x.meanWait(), y.meanWait(), trail); break;
      case 57: check("busiest" + args, x.busiest(bit), y.busiest(bit), trail); break;
      case 58: check("ifClosed" + args, x.ifClosed(h, b, weekday - 1), y.ifClosed(h, b, weekday - 1), trail); break;
      case 59: check("ifClosed" + args, x.ifClosed(h, b, weekday), y.ifClosed(h, b, weekday), trail); break;
      case 60: check("ifPeriod" + args, x.ifPeriod(h, t, n), y.ifPeriod(h, t, n), trail); break;
      case 61: check("visits" + args, x.visits(i, n), y.visits(i, n), trail); break;
      case 62: check("thereAndBack" + args, x.thereAndBack(b, c, day), y.thereAndBack(b, c, day), trail); break;
      case 63: check("bestDay" + args, x.bestDay(b, c, n), y.bestDay(b, c, n), trail); break;
      case 64:
      case 65: check("log" + args, x.log(k, what), y.log(k, what), trail); break;
      case 66: check("ranked" + args, x.ranked(k), k < 0 ? -1 : y.nth(y.m.ranking(), k), trail); break;
      default: check("count " + wide + args, x.count(wide), y.count(wide), trail); break;
    }
  }

  /** All that can be read of the state at once, as long as there are calls left. */
  static void whole(LoanVans x, Plain y, StringBuilder trail) {
    for (int i = 0; i < y.m.items.size() && asked < MOST_CALLS; i++) {
      for (int what = 0; what < 10; what++) {
        check("item(" + i + ", " + what + ")", x.item(i, what), y.item(i, what), trail);
      }
    }
    for (int h = 0; h < y.m.holds.size() && asked < MOST_CALLS; h++) {
      for (int what = 0; what < 6; what++) {
        check("holdOf(" + h + ", " + what + ")", x.holdOf(h, what), y.holdOf(h, what), trail);
      }
    }
    for (int what = 0; what < 15 && asked < MOST_CALLS; what++) {
      check("count(" + what + ")", x.count(what), y.count(what), trail);
    }
  }

  public static void main(String[] args) {
    for (int run = 0; run < RUNS; run++) {
      Dice d = new Dice(run + 1);
      LoanVans x = new LoanVans();
      Plain y = new Plain();
      StringBuilder trail = new StringBuilder(" run " + run);
      asked = 0;
      String s = text(d);
      feed(x, y, s, trail);
      check("text", x.text(s.length()), y.text(s.length()), trail);
      int calls = run % 2 == 0 ? MOST_CALLS : 60 + d.below(120);
      for (int call = 0; call < calls && asked < MOST_CALLS && wrong == 0; call++) {
        oneCall(d, x, y, trail);
      }
      whole(x, y, trail);
    }
    for (int run = 0; run < 3000; run++) {
      Dice d = new Dice(run + 100001);
      LoanVans x = new LoanVans();
      Plain y = new Plain();
      StringBuilder trail = new StringBuilder(" spoilt text " + run);
      asked = 0;
      String s = spoilt(d, text(d));
      feed(x, y, s, trail);
      check("text", x.text(s.length()), y.text(s.length()), trail);
      check("fault(0)", x.fault(0), y.fault, trail);
      check("fault(1)", x.fault(1), y.place, trail);
      whole(x, y, trail);
    }
    System.out.println(wrong == 0 ? "all answers are as the model's" : wrong + " answers differ from the model's");
    if (wrong != 0) {
      System.exit(1);
    }
  }
}
