/** The edges of terms 1 and of promises 1 to 4: the tape, the text and its faults. */
public final class EdgeTextTest {
  private static final int NONE = Edge.NONE;
  private static final String[] WORDS = {"branch", "closed", "title", "item", "van", "hold", "grace", "renews"};
  private static final String BRANCHES = "branch a;branch b;branch c;branch d;branch e;branch f;branch g;branch h;";
  private static final String TITLES = "title a 1;title b 1;title c 1;title d 1;title e 1;title f 1;";
  private static final String BASE = "branch a;title t 1;";

  private static void says(String where, String words) {
    Edge.says(where, words);
  }

  private static void due(String call, int got, int want) {
    Edge.due(call, got, want);
  }

  private static void good(String s, int lines) {
    Edge.good(s, lines);
  }

  private static void fault(String s, int which, int place) {
    Edge.fault(s, which, place);
  }

  /** At the last of its bytes that are told: the place of a mark in it, which is left out. */
  private static void faultAt(String s, int which) {
    fault(s.replace("^", ""), which, s.indexOf('^'));
  }

  // ---- the lines

  static void terms1_aTextIsLinesEachWithItsSemicolon() {
    says("terms1", "A TEXT: { LINE ';' }.");
    good("", 0);
    good(" ", 0);
    good("grace 1;", 1);
    good("grace 1;renews 1;", 2);
    faultAt("^;", 1);
    faultAt(" ^;", 1);
    faultAt("grace 1;^;", 1);
    faultAt("grace 1^", 1);
    faultAt("grace 1; renews 1^", 1);
    faultAt("grace 1 ^renews 1;", 1);
    faultAt("^a;", 1);
    faultAt("^1;", 1);
  }

  static void terms1_lineBranch() {
    says("terms1", "branch W [ closed N ]");
    good("branch a;", 1);
    good("branch a closed 1;", 1);
    faultAt("branch^;", 1);
    faultAt("branch ^closed 1;", 1);
    faultAt("branch ^1;", 1);
    faultAt("branch a ^1;", 1);
    faultAt("branch a ^b;", 1);
    faultAt("branch a closed^;", 1);
    faultAt("branch a closed ^a;", 1);
    faultAt("branch a closed 1 ^2;", 1);
    faultAt("branch a closed 1 ^closed 2;", 1);
    faultAt("^closed 1;", 1);
  }

  static void terms1_lineTitle() {
    says("terms1", "title W N");
    good("title t 1;", 1);
    faultAt("title^;", 1);
    faultAt("title ^1;", 1);
    faultAt("title t^;", 1);
    faultAt("title t ^t;", 1);
    faultAt("title t 1 ^1;", 1);
  }

  static void terms1_lineItem() {
    says("terms1", "item W W");
    good(BASE + "item t a;", 3);
    faultAt(BASE + "item^;", 1);
    faultAt(BASE + "item t^;", 1);
    faultAt(BASE + "item ^1 a;", 1);
    faultAt(BASE + "item t ^1;", 1);
    faultAt(BASE + "item t a ^a;", 1);
    faultAt(BASE + "item t a ^1;", 1);
  }

  static void terms1_lineVan() {
    says("terms1", "van N W W { W }");
    good(BASE + "van 1 a a;", 3);
    good(BASE + "van 1 a a a;", 3);
    faultAt(BASE + "van^;", 1);
    faultAt(BASE + "van 1^;", 1);
    faultAt(BASE + "van ^a a;", 1);
    faultAt(BASE + "van 1 a^;", 1);
    faultAt(BASE + "van 1 a ^2;", 1);
    faultAt(BASE + "van 1 ^1 a a;", 1);
    faultAt(BASE + "van 1 a a ^2;", 1);
    faultAt(BASE + "van 1 a a^", 1);
  }

  static void terms1_lineHold() {
    says("terms1", "hold W W");
    good(BASE + "hold a t;", 3);
    faultAt(BASE + "hold^;", 1);
    faultAt(BASE + "hold a^;", 1);
    faultAt(BASE + "hold ^1 t;", 1);
    faultAt(BASE + "hold a ^1;", 1);
    faultAt(BASE + "hold a t ^t;", 1);
    faultAt(BASE + "hold a t ^1;", 1);
  }

  static void terms1_lineGraceAndLineRenews() {
    says("terms1", "grace N | renews N.");
    good("grace 1;", 1);
    good("renews 1;", 1);
    for (String word : new String[] {"grace", "renews"}) {
      faultAt(word + "^;", 1);
      faultAt(word + " ^a;", 1);
      faultAt(word + " 1 ^1;", 1);
      faultAt(word + " ^renews;", 1);
    }
  }

  // ---- the tokens

  static void terms1_aWordHasOneToSixLetters() {
    says("terms1", "W: 1 .. 6 letters a .. z");
    good("branch a;", 1);
    good("branch abcdef;", 1);
    faultAt("branch ^abcdefg;", 1);
    faultAt("branch ^abcdefghijklmnopqrstuvwxyzabcdefghijklmnopqrstuvwxyz;", 1);
    good("title abcdef 1;", 1);
    faultAt("title ^abcdefg 1;", 1);
    good("branch zzzzzz;title zzzzzz 1;item zzzzzz zzzzzz;van 1 zzzzzz zzzzzz;hold zzzzzz zzzzzz;", 5);
  }

  static void terms1_aWordOfMoreLettersAtItsFirst() {
    says("terms1", "1 a TOKEN that is none (a word of more letters, too, at its first)");
    faultAt("branch abcdef;van 1 abcdef ^abcdefg;", 1);
    faultAt("branch abcdef;title t 1;item t ^abcdefg;", 1);
    faultAt("branch a;title abcdef 1;item ^abcdefg a;", 1);
    faultAt("branch a;title abcdef 1;hold a ^abcdefg;", 1);
    faultAt("branch a ^closedx 1;", 1);
    faultAt("grace 1;  ^renewsx 1;", 1);
    faultAt("^branchx a;", 1);
    faultAt("^graceful 1;", 1);
  }

  static void terms1_lettersAToZ() {
    says("terms1", "letters a .. z");
    for (char c = 'a'; c <= 'z'; c++) {
      good("branch " + c + ";", 1);
    }
    for (int c : new int[] {'a' - 1, 'z' + 1, 'A', 'Z', 'A' - 1, 'Z' + 1, '_', '-', 128 + 'a', 255}) {
      faultAt("branch ^" + (char) c + ";", 1);
      faultAt("branch a^" + (char) c + ";", 1);
    }
  }

  static void terms1_noneOfTheseWords() {
    says("terms1", "none of these words (branch, closed, title, item, van, hold, grace, renews)");
    for (String word : WORDS) {
      faultAt("branch ^" + word + ";", 1);
      faultAt("title ^" + word + " 1;", 1);
      faultAt(BASE + "item ^" + word + " a;", 1);
      faultAt(BASE + "item t ^" + word + ";", 1);
      faultAt(BASE + "van 1 a a ^" + word + ";", 1);
      faultAt(BASE + "hold ^" + word + " t;", 1);
      faultAt(BASE + "hold a ^" + word + ";", 1);
      good("branch " + word.substring(1) + ";title " + word.substring(0, word.length() - 1) + " 1;", 2);
    }
    good("branch titles;branch items;branch vans;branch holds;branch graces;", 5);
  }

  static void terms1_numbersAreDigits() {
    says("terms1", "N: digits.");
    good("title t 9;", 1);
    good("title t 10;", 1);
    good("grace 0;", 1);
    good("grace 000000000000000000000000030;", 1);
    good("title t 0060;", 1);
    faultAt("grace ^" + (char) ('0' - 1) + ";", 1);
    faultAt("grace 1^" + (char) ('0' - 1) + ";", 1);
    faultAt("grace ^" + (char) ('9' + 1) + ";", 1);
    faultAt("grace 1^" + (char) ('9' + 1) + ";", 1);
    faultAt("grace ^-1;", 1);
    faultAt("grace ^+1;", 1);
    faultAt("grace 1^.0;", 1);
  }

  static void terms1_blanksAre10And32() {
    says("terms1", "Blanks 10, 32.");
    good("\n \nbranch \n a\nclosed  1 \n;\n\n", 1);
    good(" title\nt\n1\n;", 1);
    faultAt("^gra ce 1;", 1);
    faultAt("branch a; ^bran\nch b;", 1);
    faultAt("grace 1 ^0;", 1);
    faultAt("grace 1\n^0;", 1);
    for (int c : new int[] {0, 9, 11, 12, 13, 31, 33, 127, 160, 255}) {
      faultAt("branch ^" + (char) c + "a;", 1);
      faultAt("branch a;^" + (char) c, 1);
    }
  }

  // ---- how many and how much

  static void terms1_branchAtMost8() {
    says("terms1", "branch, at most 8, numbered from 0 on");
    says("terms1", "a ninth branch, seventh title, 25th item, fifth van, 41st hold (at the word)");
    good(BRANCHES, 8);
    due("count(1)", Edge.of(BRANCHES).count(1), 8);
    faultAt(BRANCHES + "^branch i;", 2);
    faultAt(BRANCHES + "grace 1; ^branch a;", 2);
    faultAt(BRANCHES + "^branch", 2);
    LoanVans x = Edge.of("branch a closed 0;branch b closed 1;branch c closed 2;branch d;");
    for (int b = 0; b < 4; b++) {
      due("branch(" + b + ", 0)", x.branch(b, 0), b < 3 ? b : -2);
    }
  }

  static void terms1_weekday0To6() {
    says("terms1", "the WEEKDAY 0 .. 6 on which it is SHUT (never without)");
    for (int day = 0; day <= 6; day++) {
      due("closed " + day, Edge.of("branch a closed " + day + ";").branch(0, 0), day);
    }
    due("without", Edge.of("branch a;").branch(0, 0), -2);
    faultAt("branch a closed ^7;", 2);
    faultAt("branch a closed ^10;", 2);
    faultAt("branch a closed ^4294967296;", 2);
    faultAt("branch a closed ^18446744073709551616;", 2);
  }

  static void terms1_titleAtMost6() {
    says("terms1", "title, at most 6: a NAME, a PERIOD 1 .. 60.");
    good(TITLES, 6);
    due("count(2)", Edge.of(TITLES).count(2), 6);
    faultAt(TITLES + "^title g 1;", 2);
    faultAt(TITLES + "^title a", 2);
  }

  static void terms1_period1To60() {
    says("terms1", "a PERIOD 1 .. 60.");
    due("title t 1", Edge.of("title t 1;").title(0, 0), 1);
    due("title t 60", Edge.of("title t 60;").title(0, 0), 60);
    faultAt("title t ^0;", 2);
    faultAt("title t ^00;", 2);
    faultAt("title t ^61;", 2);
    faultAt("title t ^4294967297;", 2);
    faultAt("title t ^18446744073709551617;", 2);
  }

  static void terms1_itemAtMost24() {
    says("terms1", "item, at most 24: a TITLE, a HOME (a BRANCH), both told ahead.");
    good(BASE + Edge.times("item t a;", 24), 26);
    due("count(3)", Edge.of(BASE + Edge.times("item t a;", 24)).count(3), 24);
    faultAt(BASE + Edge.times("item t a;", 24) + "^item t a;", 2);
    faultAt(BASE + Edge.times("item t a;", 24) + "^item", 2);
  }

  static void terms1_itemBothToldAhead() {
    says("terms1", "a TITLE, a HOME (a BRANCH), both told ahead.");
    faultAt("branch a;item ^t a;title t 1;", 1);
    faultAt("title t 1;item t ^a;branch a;", 1);
    faultAt(BASE + "item ^a t;", 1);
    faultAt(BASE + "item t ^t;", 1);
    LoanVans x = Edge.of(BRANCHES + TITLES + "item f h;item a a;");
    due("item(0, 0)", x.item(0, 0), 5);
    due("item(0, 1)", x.item(0, 1), 7);
    due("item(1, 0)", x.item(1, 0), 0);
    due("item(1, 1)", x.item(1, 1), 0);
  }

  static void terms1_vanAtMost4() {
    says("terms1", "van, at most 4: ROOM 1 .. 9");
    good(BASE + Edge.times("van 1 a a;", 4), 6);
    due("count(4)", Edge.of(BASE + Edge.times("van 1 a a;", 4)).count(4), 4);
    faultAt(BASE + Edge.times("van 1 a a;", 4) + "^van 1 a a;", 2);
    faultAt(BASE + Edge.times("van 1 a a;", 4) + "^van 0", 2);
  }

  static void terms1_room1To9() {
    says("terms1", "ROOM 1 .. 9");
    due("van 1", Edge.of(BASE + "van 1 a a;").van(0, 0), 1);
    due("van 9", Edge.of(BASE + "van 9 a a;").van(0, 0), 9);
    faultAt(BASE + "van ^0 a a;", 2);
    faultAt(BASE + "van ^10 a a;", 2);
    faultAt(BASE + "van ^4294967297 a a;", 2);
  }

  static void terms1_stops2To8() {
    says("terms1", "its STOPS, 2 .. 8 BRANCHES told ahead (they may come again)");
    due("two stops", Edge.of(BASE + "van 1 a a;").van(0, 1), 2);
    due("eight stops", Edge.of(BASE + "van 1 a a a a a a a a;").van(0, 1), 8);
    faultAt(BASE + "van 1^;", 1);
    faultAt(BASE + "van 1 a^;", 1);
    faultAt(BASE + "van 1 a a a a a a a a ^a;", 2);
    LoanVans x = Edge.of(BRANCHES + "van 1 h g f e d c b a;");
    for (int k = 0; k < 8; k++) {
      due("stop(0, " + k + ")", x.stop(0, k), 7 - k);
    }
  }

  static void terms1_aNinthStopAtIt() {
    says("terms1", "a ninth STOP (at it)");
    faultAt(BASE + "van 1 a a a a a a a a ^a", 2);
    faultAt(BASE + "van 1 a a a a a a a a ^a a;", 2);
    faultAt(BASE + "van 1 a a a a a a a a ^b;", 1);
    faultAt(BASE + "van 1 a a a a a a a a ^t;", 1);
    faultAt(BASE + "van 1 a a a a a a a a ^9;", 1);
    faultAt(BASE + "van 1 a a a a a a a a ^van;", 1);
    faultAt(BASE + "van 1 a a a a a a a a^", 1);
  }

  static void terms1_stopsToldAhead() {
    says("terms1", "BRANCHES told ahead (they may come again)");
    faultAt(BASE + "van 1 ^b a;branch b;", 1);
    faultAt(BASE + "van 1 a ^b;branch b;", 1);
    faultAt(BASE + "van 1 a a ^b;branch b;", 1);
    faultAt(BASE + "van 1 a ^t;", 1);
    good("branch a;branch b;van 1 a b a b a a b b;", 3);
  }

  static void terms1_holdAtMost40() {
    says("terms1", "hold, at most 40: a BRANCH, a TITLE told ahead.");
    good(BASE + Edge.times("hold a t;", 40), 42);
    due("count(5)", Edge.of(BASE + Edge.times("hold a t;", 40)).count(5), 40);
    faultAt(BASE + Edge.times("hold a t;", 40) + "^hold a t;", 2);
    faultAt(BASE + Edge.times("hold a t;", 40) + "^hold", 2);
  }

  static void terms1_holdToldAhead() {
    says("terms1", "a BRANCH, a TITLE told ahead.");
    faultAt("title t 1;hold ^a t;branch a;", 1);
    faultAt("branch a;hold a ^t;title t 1;", 1);
    faultAt(BASE + "hold ^t a;", 1);
    faultAt(BASE + "hold a ^a;", 1);
    LoanVans x = Edge.of(BRANCHES + TITLES + "hold h f;hold a a;");
    due("holdOf(0, 0)", x.holdOf(0, 0), 7);
    due("holdOf(0, 1)", x.holdOf(0, 1), 5);
    due("holdOf(1, 0)", x.holdOf(1, 0), 0);
    due("holdOf(1, 1)", x.holdOf(1, 1), 0);
  }

  static void terms1_grace0To30() {
    says("terms1", "grace: 0 .. 30 (3)");
    due("grace 0", Edge.of("grace 0;").count(7), 0);
    due("grace 30", Edge.of("grace 30;").count(7), 30);
    due("without", Edge.of("renews 0;").count(7), 3);
    faultAt("grace ^31;", 2);
    faultAt("grace ^4294967296;", 2);
  }

  static void terms1_renews0To9() {
    says("terms1", "renews: 0 .. 9 (1)");
    due("renews 0", Edge.of("renews 0;").count(8), 0);
    due("renews 9", Edge.of("renews 9;").count(8), 9);
    due("without", Edge.of("grace 0;").count(8), 1);
    faultAt("renews ^10;", 2);
    faultAt("renews ^4294967296;", 2);
  }

  static void terms1_eachOnce() {
    says("terms1", "renews: 0 .. 9 (1): each once.");
    good("renews 3;grace 3;", 2);
    faultAt("grace 3;^grace 3;", 3);
    faultAt("renews 1;^renews 1;", 3);
    faultAt("grace 1;renews 1;^grace 1;", 3);
    faultAt("grace 1;renews 1;^renews 1;", 3);
  }

  static void terms1_asMuchAsThereMayBeOfAll() {
    says("terms1", "branch, at most 8, numbered from 0 on");
    good(Edge.FULL, 84);
    LoanVans x = Edge.of(Edge.FULL);
    int[] want = {84, 8, 6, 24, 4, 40, 0, 30, 9, 0, 40, 0, 0, 0};
    for (int what = 0; what < want.length; what++) {
      due("count(" + what + ")", x.count(what), want[what]);
    }
    for (String word : WORDS) {
      int which = word.equals("closed") ? 1 : word.equals("grace") || word.equals("renews") ? 3 : 2;
      faultAt(Edge.FULL + "^" + word + " i 1;", which);
    }
  }

  // ---- names

  static void terms1_namesAreUnlike() {
    says("terms1", "NAMES of BRANCHES are unlike, those of TITLES, too");
    faultAt("branch a;branch ^a;", 3);
    faultAt("branch a;branch b;branch ^a closed 1;", 3);
    faultAt("branch a;branch b;branch ^b;", 3);
    faultAt("title a 1;title b 1;title ^a 2;", 3);
    faultAt("branch abcdef;branch ^abcdef;", 3);
    good("branch a;branch aa;branch aaa;branch aaaa;branch aaaaa;branch aaaaaa;", 6);
    good("branch abcdef;branch abcdeg;branch bbcdef;branch abcde;", 4);
    faultAt(BRANCHES.substring(0, 63) + "branch ^a;", 3);
    faultAt(BRANCHES.substring(0, 63) + "branch ^g;", 3);
    faultAt(TITLES.substring(0, 50) + "title ^a 1;", 3);
    faultAt(TITLES.substring(0, 50) + "title ^e 1;", 3);
  }

  static void terms1_aBranchAndATitleMayBeAlike() {
    says("terms1", "(a BRANCH and a TITLE may be alike)");
    good("branch a;title a 1;item a a;hold a a;", 4);
    good("title a 1;branch a;", 2);
  }

  // ---- the faults

  static void terms1_theFirstAlongTheText() {
    says("terms1", "FAULTS, the first along the text (of one place the least), with its place");
    faultAt("title t ^61 61;", 2);
    faultAt("title t 1;title ^t 61;", 3);
    faultAt("grace 1;^grace 31;", 3);
    faultAt("grace ^31;grace 1;", 2);
    faultAt("branch a;branch ^a closed 7;", 3);
    faultAt("branch a closed ^7;;", 2);
    faultAt(BRANCHES + "^branch a closed 7;", 2);
    faultAt(BRANCHES + "^branch branch;", 2);
    faultAt(BASE + "van ^10 b;", 2);
    faultAt(BASE + "item ^x y;", 1);
    faultAt(BASE + "^; branch", 1);
  }

  static void terms1_ofOnePlaceTheLeast() {
    says("terms1", "(of one place the least)");
    faultAt("branch ^99;", 1);
    faultAt("title t 1 ^99;", 1);
    faultAt(BASE + "van 1 a a ^99;", 1);
    faultAt(BASE + "van 1 a a a a a a a a ^b;", 1);
    faultAt(BASE + "van 1 a a a a a a a a ^99;", 1);
    faultAt(BASE + "item t a ^t;", 1);
    faultAt("grace 1 ^grace;", 1);
  }

  static void terms1_fault1TheLengthIfMoreMustCome() {
    says("terms1", "can't stand there (a W that isn't told, the length, if more must come)");
    String line = "branch a closed 1;";
    for (int n = 1; n < line.length(); n++) {
      LoanVans x = new LoanVans();
      Edge.feed(x, line);
      due(line.substring(0, n), x.text(n), NONE);
      boolean cut = n < 6 || n > 9 && n < 15;
      due("fault(0)", x.fault(0), 1);
      due("fault(1) of " + line.substring(0, n), x.fault(1), cut ? n < 6 ? 0 : 9 : n);
    }
    faultAt("branch a   \n ^", 1);
    faultAt("grace 1;title ^", 1);
    String all = "grace 1;" + Edge.times(" ", 884) + "renews 1";
    fault(all, 1, 900);
    good("grace 1;" + Edge.times(" ", 883) + "renews 1;", 2);
    faultAt("grace 1;" + Edge.times(" ", 891) + "^a", 1);
  }

  static void terms1_fault2ANumberBeyondAtIt() {
    says("terms1", "2 a number beyond what is said (at it)");
    faultAt("grace    ^31  ;", 2);
    faultAt("grace ^0031;", 2);
    faultAt("grace ^99999999999999999999999999999999999999999;", 2);
    faultAt("grace ^31", 2);
  }

  static void terms1_fault3ToldAlready() {
    says("terms1", "3 told already: a NAME (at it), grace, renews (at the word).");
    faultAt("branch a; branch  ^a", 3);
    faultAt("title a 1; title ^a", 3);
    faultAt("grace 1;  ^grace", 3);
    faultAt("renews 1;  ^renews", 3);
    faultAt("renews 1;  ^renews x", 3);
  }

  // ---- promises

  static void promise01_noBranchesDay0AnEmptyTape() {
    says("promise01", "No BRANCHES, DAY 0, an empty TAPE.");
    LoanVans x = new LoanVans();
    for (int what = 0; what < 14; what++) {
      due("count(" + what + ")", x.count(what), what == 7 ? 3 : what == 8 ? 1 : 0);
    }
    due("branch(0, 0)", Edge.thrown(() -> x.branch(0, 0)), Edge.NO_INDEX);
    due("title(0, 0)", Edge.thrown(() -> x.title(0, 0)), Edge.NO_INDEX);
    due("item(0, 0)", Edge.thrown(() -> x.item(0, 0)), Edge.NO_INDEX);
    due("holdOf(0, 0)", Edge.thrown(() -> x.holdOf(0, 0)), Edge.NO_INDEX);
    int[] none = {x.van(0, 0), x.stop(0, 0), x.hold(0, 0), x.recall(0), x.renew(0), x.undo(), x.loans(0, 0), x.queue(0, 0),
        x.inVan(0, 0), x.waits(0, 0), x.arrival(0, 0, 0), x.leg(0, 1, 0, 0), x.legs(0, 0, 0), x.given(0, 0), x.lentOn(0),
        x.ifHold(0, 0), x.ifCancelled(0, 1), x.ifNoVan(0, 0), x.where(0, 0), x.meet(0, 1), x.every(0, 0), x.farthest(0, 0),
        x.path(0, 0, 0, 0, 0), x.reach(0, 0, 0), x.ifStop(0, 0, 0, 0), x.ifRoom(0, 0, 0), x.waited(0), x.ifClosed(0, 0, 0),
        x.ifPeriod(0, 0, 1), x.visits(0, 0), x.thereAndBack(0, 0, 0), x.bestDay(0, 0, 1)};
    for (int k = 0; k < none.length; k++) {
      due("call " + k + " of nothing there yet", none[k], NONE);
    }
    Edge.due("cancel(0)", x.cancel(0), false);
    due("owed(0, 1)", x.owed(0, 1), Edge.MIN);
    int[] absent = {x.longest(0), x.lender(0), x.nextDue(0), x.center(0), x.busiest(0), x.meanWait(), x.log(0, 0), x.ranked(0)};
    for (int k = 0; k < absent.length; k++) {
      due("call " + k + " of nothing there to name", absent[k], -2);
    }
    due("served(60)", x.served(60), 0);
    due("astray(60)", x.astray(60), 0);
    due("text(1)", x.text(1), -2);
    due("days(60)", x.days(60), 60);
    due("undo()", x.undo(), 0);
  }

  static void promise02_fourOfEachTheHighestFirst() {
    says("promise02", "Twenty bytes come behind the TAPE, four of each number, the highest first: how many it has");
    LoanVans x = new LoanVans();
    for (int place = 0; place < 20; place++) {
      int[] n = new int[5];
      for (int k = 0; k < 20; k++) {
        n[k / 4] |= (k == place ? ';' : ' ') << 8 * (3 - k % 4);
      }
      due("feed", x.feed(n[0], n[1], n[2], n[3], n[4]), 20);
      due("text(20)", x.text(20), NONE);
      due("fault(1)", x.fault(1), place);
    }
    due("bytes over 127", x.feed(0x20202020, 0x202020ff, -1, Edge.MIN, 0), 20);
    due("text(7)", x.text(7), 0);
    x.feed(0x20202020, 0x202020ff, -1, Edge.MIN, 0);
    due("text(8)", x.text(8), NONE);
    due("fault(1)", x.fault(1), 7);
  }

  static void promise02_howManyItHas() {
    says("promise02", "Twenty bytes come behind the TAPE, four of each number, the highest first: how many it has");
    LoanVans x = new LoanVans();
    for (int k = 1; k <= 45; k++) {
      due("feed", x.feed(0x20202020, 0x20202020, 0x20202020, 0x20202020, 0x20202020), 20 * k);
      due("count(13)", x.count(13), 20 * k);
    }
    due("text(900)", x.text(900), 0);
    due("it begins anew", x.feed(0, 0, 0, 0, 0), 20);
    due("text(20)", x.text(20), NONE);
    due("it begins anew behind a fault, too", x.feed(0, 0, 0, 0, 0), 20);
  }

  static void promise02_noneAndNoneComeIfItWouldHaveMoreThan900() {
    says("promise02", "NONE, and none come, if it would have more than 900.");
    LoanVans x = new LoanVans();
    Edge.feed(x, "branch a;branch b;" + Edge.times(" ", 873) + "branch c;");
    due("count(13)", x.count(13), 900);
    due("feed", x.feed(0x3b3b3b3b, 0x3b3b3b3b, 0x3b3b3b3b, 0x3b3b3b3b, 0x3b3b3b3b), NONE);
    due("feed", x.feed(0, 0, 0, 0, 0), NONE);
    due("count(13)", x.count(13), 900);
    due("text(901)", x.text(901), -2);
    due("text(900)", x.text(900), 3);
    due("feed", x.feed(0x20202020, 0x20202020, 0x20202020, 0x20202020, 0x20202020), 20);
    due("text(20)", x.text(20), 0);
  }

  static void promise02_aRefusedFeedLeavesAllAsItWas() {
    says("promise02", "NONE, and none come, if it would have more than 900.");
    LoanVans x = Edge.town(5);
    LoanVans twin = Edge.town(5);
    for (LoanVans each : new LoanVans[] {x, twin}) {
      Edge.feed(each, "grace 31;");
      each.text(20);
      Edge.feed(each, Edge.times(" ", 900));
    }
    due("feed", x.feed(1, 2, 3, 4, 5), NONE);
    due("fault(0)", x.fault(0), 2);
    due("fault(1)", x.fault(1), 6);
    due("count(13)", x.count(13), 900);
    Edge.same("feed", x, twin);
  }

  static void promise03_theFirstNBytesAreTheText() {
    says("promise03", "The TAPE's first n bytes (it is empty then) are the TEXT");
    LoanVans x = new LoanVans();
    Edge.feed(x, "grace 7;renews 7;");
    due("text(8)", x.text(8), 1);
    due("count(7)", x.count(7), 7);
    due("count(8)", x.count(8), 1);
    due("the rest is gone", x.count(13), 0);
    due("text(1)", x.text(1), -2);
    Edge.feed(x, "grace 7;renews 7;");
    due("text(17)", x.text(17), 2);
    Edge.feed(x, "title t 60;");
    due("a number cut by the end", x.text(9), NONE);
    due("fault(1)", x.fault(1), 9);
    Edge.feed(x, "grace 5;");
    due("text(0)", x.text(0), 0);
    due("count(13)", x.count(13), 0);
  }

  static void promise03_allAnewDay0NothingToUndo() {
    says("promise03", "(all anew, DAY 0, nothing to undo): how many LINES");
    LoanVans x = Edge.town(9);
    x.hold(0, 0);
    Edge.feed(x, Edge.TOWN);
    due("text", x.text(Edge.TOWN.length()), 15);
    Edge.same("text", x, Edge.town(0));
    LoanVans y = Edge.town(9);
    due("text(0)", y.text(0), 0);
    for (int what = 0; what < 14; what++) {
      due("count(" + what + ")", y.count(what), what == 7 ? 3 : what == 8 ? 1 : 0);
    }
    due("undo()", y.undo(), NONE);
    due("log(0, 0)", y.log(0, 0), -2);
    due("meanWait()", y.meanWait(), -2);
  }

  static void promise03_allAnewTheWaysToo() {
    says("promise03", "(all anew, DAY 0, nothing to undo)");
    String first = "branch a; branch b; branch c; van 1 a b;";
    String second = "branch a; branch b; branch c; van 1 a a c; van 1 b b c b b a;";
    for (int day = 0; day < 8; day++) {
      LoanVans x = Edge.of(first);
      LoanVans y = Edge.of(second);
      for (int b = 0; b < 3; b++) {
        x.arrival(b, 0, day);
        x.arrival(b, 0, day + 1);
      }
      Edge.tell(x, second);
      for (int from = 0; from < 3; from++) {
        for (int to = 0; to < 3; to++) {
          due("arrival(" + from + ", " + to + ", " + day + ")", x.arrival(from, to, day), y.arrival(from, to, day));
        }
      }
    }
    LoanVans z = Edge.of(first);
    due("by the first text", z.arrival(0, 1, 1), 3);
    Edge.tell(z, "branch a; branch b; van 1 b a;");
    due("by the second text", z.arrival(0, 1, 1), 2);
  }

  static void promise03_noneWithAFaultAllElseStays() {
    says("promise03", "NONE with a FAULT, all else stays");
    String[] faults = {"branch q; branch r; title q 9; item q q; hold r q; van 1 q r; grace 1; renews 5;;",
        ";", "branch", "grace 31;", "renews 0; renews 1;", Edge.times("branch q;", 2)};
    for (String s : faults) {
      LoanVans x = Edge.town(5);
      x.cancel(1);
      LoanVans twin = Edge.town(5);
      twin.cancel(1);
      due(s, Edge.tell(x, s), NONE);
      due("the tape is empty", x.count(13), 0);
      due("lentOn(2)", x.lentOn(2), 4);
      due("arrival(0, 2, 5)", x.arrival(0, 2, 5), 7);
      Edge.same(s, x, twin);
    }
  }

  static void promise03_thereAreNotSoManyNIsBelow0() {
    says("promise03", "-2, and the TAPE stays: there are not so many, n is below 0.");
    LoanVans x = Edge.town(5);
    LoanVans twin = Edge.town(5);
    due("text(1) of an empty tape", x.text(1), -2);
    Edge.feed(x, "grace 7;");
    Edge.feed(twin, "grace 7;");
    for (int n : new int[] {21, 22, 900, 901, -1, -20, Edge.MIN, Edge.MAX}) {
      due("text(" + n + ")", x.text(n), -2);
      due("count(13)", x.count(13), 20);
    }
    due("fault(0)", x.fault(0), 0);
    due("fault(1)", x.fault(1), NONE);
    Edge.same("text", x, twin);
    due("text(20)", x.text(20), 1);
    due("count(7)", x.count(7), 7);
  }

  static void promise04_zeroWithoutAndAheadOfAny() {
    says("promise04", "what 0: its FAULT (0 without, and ahead of any), 1: its place (NONE without)");
    LoanVans x = new LoanVans();
    due("fault(0) ahead of any", x.fault(0), 0);
    due("fault(1) ahead of any", x.fault(1), NONE);
    x.text(5);
    due("fault(0) ahead of any", x.fault(0), 0);
    x.text(0);
    due("fault(0) without", x.fault(0), 0);
    due("fault(1) without", x.fault(1), NONE);
    Edge.tell(x, ";");
    due("fault(0)", x.fault(0), 1);
    due("fault(1): the first place", x.fault(1), 0);
    Edge.tell(x, "grace 1;");
    due("fault(0) without, again", x.fault(0), 0);
    due("fault(1) without, again", x.fault(1), NONE);
  }

  static void promise04_ofTheLatestTextThatWasNotMinus2() {
    says("promise04", "Of the latest text() that was not -2");
    LoanVans x = new LoanVans();
    Edge.tell(x, "grace 31;");
    due("text(-1)", x.text(-1), -2);
    due("text(1)", x.text(1), -2);
    due("fault(0)", x.fault(0), 2);
    due("fault(1)", x.fault(1), 6);
    Edge.tell(x, "branch a;branch a;");
    due("fault(0)", x.fault(0), 3);
    due("fault(1)", x.fault(1), 16);
    x.text(0);
    due("fault(0)", x.fault(0), 0);
    due("fault(1)", x.fault(1), NONE);
  }

  static void promise04_noneForAnotherWhat() {
    says("promise04", "NONE for another what.");
    LoanVans x = new LoanVans();
    Edge.tell(x, "grace 31;");
    Edge.range("fault", x::fault, 0, 2, 1, 6, NONE);
  }

  public static void main(String[] args) {
    Edge.run(EdgeTextTest.class, "terms1", "promise01", "promise02", "promise03", "promise04");
  }
}
