/** Promise by promise, each sentence that names an edge: too small, too large, empty, full, refused. */
public final class PromisesTest {
  private static final Check CHECK = new Check();
  private static final int NONE = TruePiece.NONE;
  private static final int LOW = Integer.MIN_VALUE;
  private static final int HIGH = Integer.MAX_VALUE;
  private static final int BLANKS = 0x20202020;
  /** Rows 0 and 1 of a, 2 to 4 of b; 2 and 3 link to 0. */
  private static final String STORE = "table a: x, y; table b: v, z to a, w to b;"
      + "row a: 6, -; row a: 10, 0; row b: 1, #0, -; row b: 2, #0, #0; row b: 3, -, -;";
  private static final String FULL = "table a: x; table b: x; table c: x; table d: x; table e: v, w, x, y, z;"
      + "row e: 1, 2, 3, 4, 5;";
  private static final String WISHES = "wish 1 b where v = 2; law a needs 1 b by z; wish 1 b where v > 2;";

  public static void main(String[] args) {
    newObject();
    feed();
    feedRefused();
    end();
    store();
    storeFault();
    wishes();
    wishesFault();
    wishesTooLong();
    fault();
    row();
    value();
    holds();
    gone();
    least();
    keep();
    steady();
    piece();
    why();
    order();
    rings();
    hide();
    shown();
    weight();
    about();
    calls();
    CHECK.finish("PromisesTest");
  }

  /** With something of each kind: wishes, a piece kept, a row gone, a column hidden, a fault. */
  private static TruePiece used() {
    TruePiece x = Check.with(STORE, WISHES);
    x.keep();
    Check.wishes(x, "wish 1 b where v < 3; law a needs 1 b by z;");
    x.gone(4);
    x.hide(0, 0, 3);
    return x;
  }

  private static TruePiece without() {
    return Check.with(STORE, "wish 3 a;");
  }

  private static void newObject() {
    CHECK.sentence("1: No tables, no WISHES, nothing KEPT.");
    TruePiece used = used();
    TruePiece x = new TruePiece();
    for (int what = 0; what <= 5; what++) {
      CHECK.due("about " + what, x.about(what), 0);
    }
    CHECK.due("columns of table 0", x.about(10), NONE);
    CHECK.due("rows of table 0", x.about(20), NONE);
    CHECK.due("fault", x.fault(0), 0);
    CHECK.due("its place", x.fault(1), NONE);
    CHECK.due("row", x.row(0, 0), NONE);
    CHECK.due("value", x.value(0, 0), NONE);
    CHECK.due("shown", x.shown(0, 0), NONE);
    CHECK.due("holds", x.holds(0, 0), NONE);
    CHECK.due("gone", x.gone(0), false);
    CHECK.due("least", x.least(), 0);
    CHECK.due("steady", x.steady(), 0);
    CHECK.due("the empty piece", x.piece(0), 1);
    CHECK.due("piece 1", x.piece(1), NONE);
    CHECK.due("why", x.why(0), NONE);
    CHECK.due("order", x.order(0), NONE);
    CHECK.due("rings", x.rings(), 0);
    CHECK.due("hide", x.hide(0, 0, 0), false);
    CHECK.due("weight", x.weight(0, 0, true), NONE);
    CHECK.due("keep", x.keep(), true);
    CHECK.due("the other object has its own rows", used.about(1), 5);
  }

  private static void feed() {
    CHECK.sentence("2: Twenty bytes come behind those on the TAPE, of each number the highest first");
    for (int place = 0; place < 20; place++) {
      int[] numbers = {BLANKS, BLANKS, BLANKS, BLANKS, BLANKS};
      // 255 where a blank was: a byte above 127, which no number's sign may spoil.
      numbers[place / 4] |= 255 << 24 - place % 4 * 8;
      TruePiece x = new TruePiece();
      x.feed(BLANKS, BLANKS, BLANKS, BLANKS, BLANKS);
      CHECK.due("fed", x.feed(numbers[0], numbers[1], numbers[2], numbers[3], numbers[4]), 40);
      CHECK.due("store", x.store(), NONE);
      CHECK.due("the place of byte " + place, x.fault(1), 20 + place);
    }
    TruePiece x = new TruePiece();
    // "tabl" "e a:" " x; " "row " "a:7;"
    x.feed(0x7461626c, 0x6520613a, 0x20783b20, 0x726f7720, 0x613a373b);
    CHECK.due("a text of four times five bytes", x.store(), 1);
    CHECK.sentence("2: how many there are");
    for (int count = 20; count <= 1200; count += 20) {
      CHECK.due("fed", x.feed(-1, 0, LOW, HIGH, 1), count);
      CHECK.due("about 5", x.about(5), count);
    }
  }

  private static void feedRefused() {
    CHECK.sentence("2: NONE, and nothing comes, if there would be more than 1,200");
    String text = "table a: x; row a: 7;";
    for (int length : new int[] {1181, 1190, 1199, 1200}) {
      TruePiece x = new TruePiece();
      Check.type(x, text + " ".repeat(length - text.length()));
      CHECK.due("feed behind " + length, x.feed(-1, -1, -1, -1, -1), NONE);
      CHECK.due("again", x.feed(-1, -1, -1, -1, -1), NONE);
      CHECK.due("bytes", x.about(5), length);
      CHECK.due("end beyond", x.end(length + 1), NONE);
      CHECK.due("the text is as it was", x.store(), 1);
    }
    TruePiece x = new TruePiece();
    Check.type(x, text + " ".repeat(1180 - text.length()));
    CHECK.due("feed behind 1180", x.feed(BLANKS, BLANKS, BLANKS, BLANKS, BLANKS), 1200);
    x.end(1181);
    CHECK.due("feed behind 1181", x.feed(-1, -1, -1, -1, -1), NONE);
    x.end(1180);
    CHECK.due("feed behind 1180 again", x.feed(BLANKS, BLANKS, BLANKS, BLANKS, BLANKS), 1200);
    CHECK.due("store", x.store(), 1);
  }

  private static void end() {
    CHECK.sentence("3: The TAPE has its first n bytes: n");
    TruePiece x = new TruePiece();
    CHECK.due("0 of none", x.end(0), 0);
    Check.type(x, "table a: x; table b: y;");
    CHECK.due("all", x.end(23), 23);
    CHECK.due("all but one", x.end(22), 22);
    CHECK.due("bytes", x.about(5), 22);
    CHECK.due("a few", x.end(11), 11);
    CHECK.due("store of the first ones", x.store(), 0);
    CHECK.due("the first table alone", x.about(0), 1);
    Check.type(x, "table a: x;");
    CHECK.due("0 of 11", x.end(0), 0);
    CHECK.due("bytes", x.about(5), 0);
    Check.type(x, " ".repeat(1200));
    CHECK.due("1200", x.end(1200), 1200);
    CHECK.due("1201", x.end(1201), NONE);
    cutAnywhere();
    CHECK.sentence("3: NONE, doing nothing, if it has not so many, or n is below 0");
    x = new TruePiece();
    CHECK.due("1 of none", x.end(1), NONE);
    Check.type(x, "table a: x; ?");
    CHECK.due("cut", x.end(11), 11);
    for (int n : new int[] {12, 13, 20, 1200, HIGH, -1, -11, LOW}) {
      CHECK.due("end " + n, x.end(n), NONE);
      CHECK.due("bytes", x.about(5), 11);
    }
    CHECK.due("store", x.store(), 0);
    CHECK.due("1 of an emptied tape", x.end(1), NONE);
  }

  /** What stood behind the cut must not be read, be it the rest of a word or of a number. */
  private static void cutAnywhere() {
    String text = "table ab: cd, ef to ab;\nrow ab: 123456, #00;";
    for (int n = 0; n <= text.length(); n++) {
      TruePiece cut = new TruePiece();
      Check.type(cut, text);
      cut.end(n);
      TruePiece alone = new TruePiece();
      Check.type(alone, text.substring(0, n));
      CHECK.due("store of " + n, cut.store(), alone.store());
      CHECK.due("its fault", cut.fault(0), alone.fault(0));
      CHECK.due("its place", cut.fault(1), alone.fault(1));
      CHECK.due("no place is behind the cut", cut.fault(1) <= n, true);
    }
  }

  private static void store() {
    CHECK.sentence("4: The TAPE (empty then) is the STORE .. how many ROWS");
    TruePiece x = new TruePiece();
    CHECK.due("rows", Check.store(x, STORE), 5);
    CHECK.due("bytes on the tape", x.about(5), 0);
    CHECK.due("of the empty tape", x.store(), 0);
    CHECK.due("no tables", x.about(0), 0);
    CHECK.due("no row", x.row(0, 0), NONE);
    CHECK.due("no value", x.value(0, 0), NONE);
    CHECK.due("no columns", x.about(10), NONE);
    CHECK.due("fewer rows than before", Check.store(x, "table q: r; row q: 1;"), 1);
    CHECK.due("no row 1", x.row(1, 0), NONE);
    CHECK.due("no column 1", x.value(0, 1), NONE);
    CHECK.sentence("4: (no WISHES, nothing KEPT, GONE or HIDDEN then)");
    x = used();
    CHECK.due("a piece is known", x.steady() != x.least() && x.order(0) == 0, true);
    CHECK.due("the same store again", Check.store(x, STORE), 5);
    CHECK.due("all as in a new one", View.of(x), View.of(Check.with(STORE, "")));
    CHECK.due("wishes", x.about(2), 0);
    CHECK.due("kept", x.about(4), 0);
    CHECK.due("gone", x.about(3), 0);
    CHECK.due("hidden", x.shown(0, 0), 6);
    x = used();
    x.store();
    Check.store(x, STORE);
    Check.wishes(x, "wish 2 b;");
    CHECK.due("with wishes, too", View.of(x), View.of(Check.with(STORE, "wish 2 b;")));
    // Nothing of a store shows through those that come behind it.
    Check.store(x, STORE);
    Check.store(x, "table q: r; table p: s; row q: 1; row p: 2; row q: 3; row p: 4; row q: 5;");
    Check.wishes(x, "wish 2 p;");
    CHECK.due("no links are left", x.least(), Check.bits(1, 3));
    CHECK.due("any row may go", x.gone(0), true);
    Check.store(x, "table q: r; row q: 1;");
    CHECK.due("one table", x.about(11), NONE);
    CHECK.due("no table to hide a column of", x.hide(1, 0, 1), false);
  }

  private static void storeFault() {
    CHECK.sentence("4: NONE: a FAULT (all stays)");
    String[] faulty = {"?", "table", "table a: x, x;", "row a: 1;", "table a: x to a; row a: #1;",
        "table q: r, s; table p: t to q; row q: 7, 8; row p: #0; row p: #1;"};
    for (String text : faulty) {
      TruePiece x = used();
      String before = View.of(x);
      CHECK.due("store " + text, Check.store(x, text), NONE);
      CHECK.due("all behind " + text, View.of(x), before);
      CHECK.due("the kept piece", x.about(4), Check.bits(0, 3, 2, 4));
      x.gone(3);
      Check.wishes(x, WISHES);
      TruePiece same = used();
      same.gone(3);
      Check.wishes(same, WISHES);
      CHECK.due("all further on", View.of(x), View.of(same));
    }
  }

  private static void wishes() {
    CHECK.sentence("5: The TAPE (empty then) is the WISHES: how many");
    TruePiece x = Check.with(STORE, "");
    CHECK.due("three", Check.wishes(x, WISHES), 3);
    CHECK.due("bytes on the tape", x.about(5), 0);
    CHECK.due("two", Check.wishes(x, "wish 1 a; law a needs 1 b by z;"), 2);
    CHECK.due("the third is no more", x.holds(2, 0), NONE);
    CHECK.due("of the empty tape", x.wishes(), 0);
    CHECK.due("none", x.about(2), 0);
    CHECK.due("least of none", x.least(), 0);
    formerWishes();
    x = used();
    Check.wishes(x, WISHES);
    CHECK.due("rows stay gone", x.about(3), 1);
    CHECK.due("the kept piece stays", x.about(4), Check.bits(0, 2, 3, 4));
    CHECK.due("columns stay hidden", x.shown(0, 0), 45);
  }

  /** Nothing of wishes shows through those that come behind them. */
  private static void formerWishes() {
    TruePiece x = Check.with(STORE, "");
    for (int i = 0; i < 3; i++) {
      CHECK.due("four", Check.wishes(x, "wish 1 a; wish 2 a; law a needs 2 b by z; wish 3 b;"), 4);
      CHECK.due("all rows", x.least(), 31);
    }
    for (int i = 0; i < 3; i++) {
      CHECK.due("one", Check.wishes(x, "wish 1 b where v = 1;"), 1);
      CHECK.due("two rows", x.least(), Check.bits(0, 2));
      CHECK.due("one is linked to", x.why(0), 2);
      CHECK.due("one is a piece without a law", x.piece(Check.bits(0, 1, 2)), 1);
      CHECK.due("there is no second wish", x.holds(1, 2), NONE);
    }
  }

  private static void wishesFault() {
    CHECK.sentence("5: NONE: a FAULT (those there are stay)");
    String[] faulty = {"?", "wish", "wish 0 a;", "wish 1 no;", "wish 1 a; wish 1 a; wish 1 a; wish 1 a where x",
        "law a needs 1 b by z; law a needs 2 b by v;"};
    for (String text : faulty) {
      TruePiece x = used();
      String before = View.of(x);
      CHECK.due("wishes " + text, Check.wishes(x, text), NONE);
      CHECK.due("all behind " + text, View.of(x), before);
      x.gone(3);
      TruePiece same = used();
      same.gone(3);
      CHECK.due("all further on", View.of(x), View.of(same));
    }
  }

  private static void wishesTooLong() {
    CHECK.sentence("5: -2, and the TAPE stays: more than 600 bytes");
    for (int length : new int[] {601, 602, 1199, 1200}) {
      TruePiece x = used();
      Check.type(x, "wish 2 b;" + " ".repeat(length - 9));
      String before = View.whole(x);
      CHECK.due("wishes of " + length, x.wishes(), -2);
      CHECK.due("again", x.wishes(), -2);
      CHECK.due("all", View.whole(x), before);
      CHECK.due("cut", x.end(600), 600);
      CHECK.due("600", x.wishes(), 1);
      CHECK.due("the tape is empty", x.about(5), 0);
    }
    TruePiece x = used();
    Check.type(x, "?" + " ".repeat(600));
    CHECK.due("a fault is not looked for", x.wishes(), -2);
    CHECK.due("nor told", x.fault(0), 0);
    x.end(600);
    CHECK.due("now it is", x.wishes(), NONE);
  }

  private static void fault() {
    CHECK.sentence("6: what 0: its FAULT (0), 1: its place (NONE)");
    TruePiece x = new TruePiece();
    Check.store(x, STORE);
    dueFault(x, 0, NONE);
    Check.store(x, "table a: x; table a: y;");
    dueFault(x, 3, 18);
    Check.wishes(x, WISHES);
    dueFault(x, 0, NONE);
    Check.wishes(x, "wish 17 a;");
    dueFault(x, 6, 5);
    Check.store(x, "");
    dueFault(x, 0, NONE);
    CHECK.sentence("6: Of the latest store() or wishes() that was not -2");
    Check.wishes(x, "?");
    dueFault(x, 1, 0);
    Check.type(x, " ".repeat(601));
    CHECK.due("-2", x.wishes(), -2);
    dueFault(x, 1, 0);
    x.end(600);
    x.wishes();
    dueFault(x, 0, NONE);
    Check.type(x, "?" + " ".repeat(600));
    CHECK.due("-2", x.wishes(), -2);
    dueFault(x, 0, NONE);
    // Other calls leave it as it is.
    x.store();
    dueFault(x, 1, 0);
    x.feed(0, 0, 0, 0, 0);
    x.end(0);
    x.least();
    x.gone(0);
    dueFault(x, 1, 0);
    CHECK.sentence("6: NONE for another what");
    for (int what : new int[] {2, 3, -1, LOW, HIGH}) {
      CHECK.due("fault " + what, x.fault(what), NONE);
    }
  }

  private static void dueFault(TruePiece x, int fault, int place) {
    CHECK.due("fault", x.fault(0), fault);
    CHECK.due("place", x.fault(1), place);
  }

  private static void row() {
    CHECK.sentence("7: Of a ROW what 0: its table, 1: its number there, 2: 1 if it is GONE, else 0");
    TruePiece x = used();
    int[][] due = {{0, 0, 0}, {0, 1, 0}, {1, 0, 0}, {1, 1, 0}, {1, 2, 1}};
    for (int row = 0; row < 5; row++) {
      for (int what = 0; what < 3; what++) {
        CHECK.due("row " + row + "," + what, x.row(row, what), due[row][what]);
      }
    }
    CHECK.sentence("7: NONE if there is none such");
    for (int what = 0; what < 3; what++) {
      for (int row : new int[] {-1, 5, 16, 32, LOW, HIGH}) {
        CHECK.due("row " + row + "," + what, x.row(row, what), NONE);
      }
    }
    for (int what : new int[] {-1, 3, LOW, HIGH}) {
      CHECK.due("row 0," + what, x.row(0, what), NONE);
    }
  }

  private static void value() {
    CHECK.sentence("8: N, or the number (over all) of the ROW to which a LINK leads");
    TruePiece x = used();
    int[][] due = {{6, NONE}, {10, 0}, {1, 0, NONE}, {2, 0, 2}, {3, NONE, NONE}};
    for (int row = 0; row < 5; row++) {
      for (int column = 0; column < due[row].length; column++) {
        CHECK.due("value " + row + "," + column, x.value(row, column), due[row][column]);
      }
    }
    CHECK.sentence("8: NONE if it is none, or there is no such column");
    for (int column : new int[] {-1, 3, 5, 7, LOW, HIGH}) {
      CHECK.due("value 3," + column, x.value(3, column), NONE);
    }
    CHECK.due("a column that only the other table has", x.value(0, 2), NONE);
    for (int row : new int[] {-1, 5, 16, 32, LOW, HIGH}) {
      CHECK.due("value " + row + ",0", x.value(row, 0), NONE);
    }
    Check.store(x, "table a: x; row a: 1;");
    CHECK.due("a column that the last store had", x.value(0, 1), NONE);
    CHECK.due("a row that the last store had", x.value(1, 0), NONE);
  }

  private static void holds() {
    CHECK.sentence("9: 1 if a wish (by its number among all; of a law NONE) holds for a ROW, 0 if not");
    TruePiece x = Check.with(STORE, WISHES);
    int[][] due = {{NONE, NONE, 0, 1, 0}, {NONE, NONE, NONE, NONE, NONE}, {NONE, NONE, 0, 0, 1}};
    for (int wish = 0; wish < 3; wish++) {
      for (int row = 0; row < 5; row++) {
        CHECK.due("holds " + wish + "," + row, x.holds(wish, row), due[wish][row]);
      }
    }
    CHECK.sentence("9: NONE if it is of another table, or one is none");
    for (int none : new int[] {-1, 3, 5, 10, 32, LOW, HIGH}) {
      CHECK.due("holds " + none + ",2", x.holds(none, 2), NONE);
    }
    for (int none : new int[] {-1, 5, 16, 32, 34, LOW, HIGH}) {
      CHECK.due("holds 0," + none, x.holds(0, none), NONE);
    }
    x = Check.with(STORE, "wish 1 a;");
    CHECK.due("without an e it holds for all", x.holds(0, 1), 1);
    CHECK.due("but of its table alone", x.holds(0, 2), NONE);
  }

  private static void gone() {
    CHECK.sentence("10: A ROW is GONE: true");
    TruePiece x = Check.with(STORE, WISHES);
    CHECK.due("gone 1", x.gone(1), true);
    CHECK.due("it is", x.row(1, 2), 1);
    CHECK.due("so many are", x.about(3), 1);
    CHECK.sentence("10: false, doing nothing, if it is so already, a ROW links to it, or there is none such");
    String before = View.whole(x);
    for (int row : new int[] {1, 0, 2, -1, 5, 16, 31, 32, 33, LOW, HIGH}) {
      CHECK.due("gone " + row, x.gone(row), false);
    }
    CHECK.due("all", View.whole(x), before);
    CHECK.due("gone 3", x.gone(3), true);
    CHECK.due("now none links to 2", x.gone(2), true);
    CHECK.due("nor to 0", x.gone(0), true);
    CHECK.due("the last one", x.gone(4), true);
    CHECK.due("all are gone", x.about(3), 5);
    CHECK.due("rows", x.about(1), 5);
    Check.wishes(x, "");
    CHECK.due("the empty piece is left", x.least(), 0);
  }

  private static void least() {
    CHECK.sentence("11: LEAST, as bits");
    TruePiece x = Check.with(STORE, WISHES);
    CHECK.due("least", x.least(), Check.bits(0, 2, 3, 4));
    CHECK.due("again", x.least(), Check.bits(0, 2, 3, 4));
    CHECK.sentence("11: NONE if there is no PIECE");
    CHECK.due("least", without().least(), NONE);
    x.gone(4);
    CHECK.due("least, a row needed gone", x.least(), NONE);
    Check.wishes(x, "wish 1 a;");
    CHECK.due("a piece again", x.least(), Check.bits(0));
  }

  private static void keep() {
    CHECK.sentence("12: LEAST is KEPT: true");
    TruePiece x = Check.with(STORE, WISHES);
    CHECK.due("keep", x.keep(), true);
    CHECK.due("kept", x.about(4), Check.bits(0, 2, 3, 4));
    Check.wishes(x, "wish 1 a;");
    CHECK.due("keep another", x.keep(), true);
    CHECK.due("kept", x.about(4), Check.bits(0));
    CHECK.due("steady", x.steady(), Check.bits(0));
    Check.wishes(x, "wish 1 a where x = 10;");
    CHECK.due("steady ahead of keep", x.steady(), Check.bits(0, 1));
    CHECK.due("keep a third", x.keep(), true);
    CHECK.due("steady behind it", x.steady(), Check.bits(1));
    CHECK.sentence("12: false, doing nothing, if there is none");
    Check.wishes(x, "wish 3 a;");
    String before = View.whole(x);
    CHECK.due("keep", x.keep(), false);
    CHECK.due("all", View.whole(x), before);
    Check.wishes(x, "wish 1 a where x = 10;");
    CHECK.due("the one kept ahead counts", x.steady(), Check.bits(1));
    Check.wishes(x, "wish 1 a where x = 6;");
    CHECK.due("the one kept ahead counts", x.steady(), Check.bits(0, 1));
  }

  private static void steady() {
    CHECK.sentence("13: STEADY, as bits");
    TruePiece x = used();
    CHECK.due("steady", x.steady(), Check.bits(0, 2, 3));
    CHECK.due("again", x.steady(), Check.bits(0, 2, 3));
    CHECK.due("least", x.least(), Check.bits(0, 2));
    CHECK.sentence("13: NONE if there is no PIECE");
    Check.wishes(x, "wish 3 a;");
    CHECK.due("steady", x.steady(), NONE);
    CHECK.due("with nothing kept", without().steady(), NONE);
    CHECK.sentence("13: that of nothing KEPT is LEAST");
    x = Check.with(STORE, "wish 1 a where x = 10;");
    CHECK.due("steady", x.steady(), Check.bits(1));
    Check.wishes(x, "");
    CHECK.due("the empty piece is kept", x.keep(), true);
    Check.wishes(x, "wish 1 b;");
    CHECK.due("steady of an empty piece", x.steady(), x.least());
  }

  private static void piece() {
    CHECK.sentence("14: 1 if a set of ROWS (bits) is a PIECE, 0 if not");
    TruePiece x = Check.with(STORE, "wish 1 a;");
    CHECK.due("no rows", x.piece(0), 0);
    CHECK.due("row 0", x.piece(1), 1);
    CHECK.due("all rows", x.piece(31), 1);
    CHECK.due("row 2 without 0", x.piece(Check.bits(1, 2)), 0);
    CHECK.sentence("14: NONE for bits beyond the ROWS");
    for (int rows : new int[] {32, 33, 63, 65536, LOW, LOW + 1, HIGH, -1}) {
      CHECK.due("piece " + rows, x.piece(rows), NONE);
    }
    x.gone(4);
    CHECK.due("a gone row is one still", x.piece(31), 0);
    x = Check.with("table a: x;" + "row a: 1;".repeat(16), "");
    CHECK.due("16 rows", x.piece(65535), 1);
    CHECK.due("a 17th", x.piece(65536), NONE);
    CHECK.due("none, but wished for", Check.with("table a: x;", "wish 1 a;").piece(0), 0);
  }

  private static void why() {
    CHECK.sentence("15: 0 if the ROW is not in LEAST");
    TruePiece x = Check.with(STORE, "wish 1 b where v = 1;");
    CHECK.due("in", x.why(2), 1);
    CHECK.due("linked to", x.why(0), 2);
    CHECK.due("not in", x.why(1), 0);
    CHECK.due("not in", x.why(4), 0);
    x.gone(4);
    CHECK.due("gone", x.why(4), 0);
    CHECK.sentence("15: NONE if there is none such, or no PIECE");
    for (int row : new int[] {-1, 5, 16, 32, 34, LOW, HIGH}) {
      CHECK.due("why " + row, x.why(row), NONE);
    }
    CHECK.due("no piece", without().why(0), NONE);
    CHECK.due("neither", without().why(5), NONE);
  }

  private static void order() {
    CHECK.sentence("16: The k-th ROW in the ORDER");
    TruePiece x = Check.with(STORE, WISHES);
    int[] due = {0, 2, 3, 4};
    for (int k = 0; k < due.length; k++) {
      CHECK.due("order " + k, x.order(k), due[k]);
    }
    CHECK.sentence("16: NONE if there is none such");
    for (int k : new int[] {-1, 4, 5, 15, 16, LOW, HIGH}) {
      CHECK.due("order " + k, x.order(k), NONE);
    }
    CHECK.due("no piece", without().order(0), NONE);
    x = Check.with("table a: x;" + "row a: 1;".repeat(16), "wish 16 a;");
    CHECK.due("the last of 16", x.order(15), 15);
    CHECK.due("one behind it", x.order(16), NONE);
    x = Check.with("table a: x to a; row a: #1; row a: #0; row a: -;", "wish 3 a;");
    CHECK.due("one free row", x.order(0), 2);
    CHECK.due("rings have no place", x.order(1), NONE);
  }

  private static void rings() {
    CHECK.sentence("17: How many ROWS of LEAST have no place in it");
    TruePiece x = Check.with("table a: x to a; row a: #1; row a: #0; row a: #0; row a: -;", "wish 1 a;");
    CHECK.due("none", x.rings(), 0);
    Check.wishes(x, "wish 2 a;");
    CHECK.due("a ring of two", x.rings(), 2);
    Check.wishes(x, "wish 4 a;");
    CHECK.due("one more links to it", x.rings(), 3);
    Check.wishes(x, "");
    CHECK.due("of an empty piece", x.rings(), 0);
    CHECK.sentence("17: NONE if there is no PIECE");
    CHECK.due("rings", without().rings(), NONE);
  }

  private static void hide() {
    CHECK.sentence("18: A column of a table is HIDDEN by a key, or (key NONE) shown: true");
    TruePiece x = Check.with(STORE, WISHES);
    for (int key : new int[] {0, 1, 9999}) {
      CHECK.due("hide by " + key, x.hide(0, 0, key), true);
      CHECK.due("it shows", x.shown(0, 0), (6 * (2 * key + 1) + key) % 1048576);
    }
    CHECK.due("show", x.hide(0, 0, NONE), true);
    CHECK.due("it shows", x.shown(0, 0), 6);
    CHECK.due("show what is shown", x.hide(0, 0, NONE), true);
    CHECK.due("the last column of the first table", x.hide(0, 1, 5), true);
    CHECK.due("the first one of the second", x.hide(1, 0, 6), true);
    CHECK.due("by their own keys", x.shown(1, 1), 5);
    CHECK.due("by their own keys", x.shown(2, 0), 19);
    CHECK.due("it is not hidden", x.shown(1, 0), 10);
    CHECK.sentence("18: false, doing nothing, if one can't be");
    String before = View.whole(x);
    int[][] refused = {{0, 0, 10000}, {0, 0, -2}, {0, 0, HIGH}, {0, 0, LOW}, {1, 1, 1}, {1, 1, NONE}, {1, 2, 0},
        {0, 2, 1}, {0, -1, 1}, {1, -1, 1}, {1, 3, 1}, {1, -5, 1}, {0, 5, 1}, {2, 0, 1}, {-1, 0, 1}, {-1, 5, 1},
        {5, 0, 1}, {LOW, 0, 1}, {HIGH, 0, 1}, {0, LOW, 1}, {0, HIGH, 1}, {0, 2, NONE}, {2, 0, NONE}};
    for (int[] of : refused) {
      CHECK.due("hide " + of[0] + "," + of[1] + "," + of[2], x.hide(of[0], of[1], of[2]), false);
      CHECK.due("value shown", x.shown(1, 0), 10);
    }
    CHECK.due("all", View.whole(x), before);
    x = Check.with(FULL, "wish 1 e;");
    CHECK.due("the last column of five tables", x.hide(4, 4, 9999), true);
    CHECK.due("it shows", x.shown(0, 4), 5 * 19999 + 9999);
    CHECK.due("the one ahead of it", x.shown(0, 3), 4);
    CHECK.due("one column more", x.hide(4, 5, 1), false);
    CHECK.due("one table more", x.hide(5, 0, 1), false);
  }

  private static void shown() {
    CHECK.sentence("19: TURNED if it is HIDDEN, else as value()");
    TruePiece x = used();
    CHECK.due("hidden", x.shown(0, 0), 45);
    CHECK.due("hidden", x.shown(1, 0), 73);
    CHECK.due("not hidden", x.shown(1, 1), 0);
    CHECK.due("not hidden", x.shown(2, 0), 1);
    CHECK.due("a link", x.shown(3, 2), 2);
    CHECK.due("none", x.shown(0, 1), NONE);
    for (int column : new int[] {-1, 2, 3, 5, LOW, HIGH}) {
      CHECK.due("shown 0," + column, x.shown(0, column), NONE);
    }
    for (int row : new int[] {-1, 5, 16, 32, LOW, HIGH}) {
      CHECK.due("shown " + row + ",0", x.shown(row, 0), NONE);
    }
    x.hide(1, 0, 2);
    CHECK.due("of a gone row", x.shown(4, 0), 17);
  }

  private static void weight() {
    CHECK.sentence("20: WEIGHT of a column of a table: its numerator (false) or denominator");
    TruePiece x = Check.with(STORE, "wish 1 b where v = 1;");
    dueWeight(x, 0, 0, 8, 3);
    dueWeight(x, 1, 0, 6, 1);
    x.hide(1, 0, 9);
    dueWeight(x, 1, 0, 6, 1);
    CHECK.sentence("20: NONE if one can't be, without a PIECE, or if it is none");
    int[][] refused = {{1, 1}, {1, 2}, {0, 2}, {0, -1}, {1, -1}, {1, 3}, {1, -5}, {0, 5}, {2, 0}, {-1, 0}, {-1, 5},
        {5, 0}, {LOW, 0}, {HIGH, 0}, {0, LOW}, {0, HIGH}};
    for (int[] of : refused) {
      dueWeight(x, of[0], of[1], NONE, NONE);
    }
    dueWeight(without(), 0, 0, NONE, NONE);
    dueWeight(x, 0, 1, NONE, NONE);
    Check.wishes(x, "wish 2 a;");
    dueWeight(x, 0, 0, 1, 1);
    dueWeight(x, 0, 1, NONE, NONE);
    x = Check.with(FULL, "wish 1 e;");
    dueWeight(x, 4, 4, 1, 1);
    dueWeight(x, 4, 5, NONE, NONE);
    dueWeight(x, 5, 0, NONE, NONE);
  }

  private static void dueWeight(TruePiece x, int table, int column, int numerator, int denominator) {
    String of = " of " + table + "," + column;
    CHECK.due("numerator" + of, x.weight(table, column, false), numerator);
    CHECK.due("denominator" + of, x.weight(table, column, true), denominator);
  }

  private static void about() {
    CHECK.sentence("21: What 0: tables, 1: ROWS, 2: WISHES (laws, too), 3: ROWS that are GONE, 4: KEPT, as bits"
        + " (0 if nothing is), 5: bytes on the TAPE, 10 + t: columns of table t, 20 + t: its ROWS");
    TruePiece x = used();
    Check.type(x, "abc");
    int[][] due = {{0, 2}, {1, 5}, {2, 2}, {3, 1}, {4, 29}, {5, 3}, {10, 2}, {11, 3}, {20, 2}, {21, 3}};
    for (int[] of : due) {
      CHECK.due("about " + of[0], x.about(of[0]), of[1]);
    }
    CHECK.due("nothing kept", without().about(4), 0);
    CHECK.sentence("21: NONE for another what");
    for (int what : new int[] {-1, 6, 7, 8, 9, 12, 14, 15, 19, 22, 24, 25, 30, 31, LOW, LOW + 10, HIGH}) {
      CHECK.due("about " + what, x.about(what), NONE);
    }
    x = Check.with(FULL, "");
    int[][] full = {{0, 5}, {10, 1}, {14, 5}, {15, NONE}, {20, 0}, {24, 1}, {25, NONE}, {9, NONE}, {19, NONE}};
    for (int[] of : full) {
      CHECK.due("about " + of[0] + " of five tables", x.about(of[0]), of[1]);
    }
  }

  private static void calls() {
    CHECK.sentence("An object is used for at most 512 calls after it has been made");
    TruePiece x = new TruePiece();
    x.feed(0x7461626c, 0x6520613a, 0x783b726f, 0x7720613a, 0x373b2020);
    CHECK.due("store", x.store(), 1);
    for (int call = 3; call < 512; call++) {
      CHECK.due("piece, call " + call, x.piece(1), 1);
    }
    CHECK.due("the 512th call", x.gone(0), true);
  }
}
