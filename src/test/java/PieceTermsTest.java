/** Parts 3 and 4 of the terms, sentence by sentence: pieces, turned values, weights. */
public final class PieceTermsTest {
  private static final Check CHECK = new Check();
  private static final int NONE = TruePiece.NONE;
  private static final String FOUR = "table a: x; row a: 1; row a: 2; row a: 1; row a: 2;";
  /** Row 0 and 1 of a; of b row 2 and 3 link to 0, row 4 to 1, row 5 to none. */
  private static final String TWO =
      "table a: x; table b: y, z to a; row a: 1; row a: 2; row b: 1, #0; row b: 2, #0; row b: 3, #1; row b: 4, -;";

  public static void main(String[] args) {
    gone();
    holdingTogether();
    wishes();
    laws();
    least();
    kept();
    steady();
    why();
    order();
    rings();
    turned();
    weight();
    CHECK.finish("PieceTermsTest");
  }

  private static int bits(int... rows) {
    return Check.bits(rows);
  }

  private static void pieces(TruePiece x, int... due) {
    for (int set = 0; set < 1 << x.about(1); set++) {
      int is = 0;
      for (int piece : due) {
        is |= piece == set ? 1 : 0;
      }
      CHECK.due("piece " + set, x.piece(set), is);
    }
  }

  private static void least(String store, String wishes, int due) {
    CHECK.due("least of " + store + " by " + wishes, Check.with(store, wishes).least(), due);
  }

  private static void gone() {
    CHECK.sentence("ROWS may be GONE (only if no ROW that is not GONE links to it;");
    TruePiece x = Check.with("table a: x to a, y to a; row a: -, -; row a: #0, -; row a: -, #0; row a: #3, -;", "");
    CHECK.due("two link to it", x.gone(0), false);
    CHECK.due("none links to it", x.gone(1), true);
    CHECK.due("one that is not gone links to it", x.gone(0), false);
    CHECK.due("none links to it", x.gone(2), true);
    CHECK.due("only gone ones link to it", x.gone(0), true);
    CHECK.due("it links to itself", x.gone(3), false);
    CHECK.sentence("not in a PIECE from then on)");
    x = Check.with(FOUR, "wish 1 a where x = 2;");
    CHECK.due("a piece with 1", x.piece(bits(1)), 1);
    CHECK.due("least", x.least(), bits(1));
    x.gone(1);
    CHECK.due("no piece with 1", x.piece(bits(1)), 0);
    CHECK.due("nor with others", x.piece(bits(1, 3)), 0);
    CHECK.due("least without 1", x.least(), bits(3));
    Check.wishes(x, "wish 2 a where x = 2;");
    CHECK.due("new wishes do not bring it back", x.least(), NONE);
  }

  private static void holdingTogether() {
    CHECK.sentence("A PIECE is a set of ROWS, none GONE, such that: of each ROW all that it links to are in");
    TruePiece x = Check.with("table a: x to a, y to a; row a: -, -; row a: #0, -; row a: #0, #1; row a: -, #3;", "");
    pieces(x, 0, 1, 3, 7, 8, 9, 11, 15);
    x.gone(2);
    pieces(x, 0, 1, 3, 8, 9, 11);
    pieces(Check.with("table a: x to a; row a: #1; row a: -;", ""), 0, 2, 3);
    pieces(Check.with("table a: x to a; row a: #1; row a: #0;", ""), 0, 3);
    CHECK.due("no rows at all", new TruePiece().piece(0), 1);
    x = Check.with("table a: x to a;" + "row a: -;".repeat(15) + "row a: #0;", "");
    CHECK.due("the last of 16 without the first", x.piece(32768), 0);
    CHECK.due("with it", x.piece(32769), 1);
  }

  private static void wishes() {
    CHECK.sentence("each wish: at least N ROWS of its table for which e holds are in");
    pieces(Check.with(FOUR, "wish 1 a where x = 1;"), 1, 3, 4, 5, 6, 7, 9, 11, 12, 13, 14, 15);
    pieces(Check.with(FOUR, "wish 2 a where x = 1;"), 5, 7, 13, 15);
    pieces(Check.with(FOUR, "wish 3 a where x = 1;"));
    pieces(Check.with(FOUR, "wish 3 a;"), 7, 11, 13, 14, 15);
    pieces(Check.with(FOUR, "wish 4 a;"), 15);
    pieces(Check.with(FOUR, "wish 5 a;"));
    pieces(Check.with(FOUR, "wish 1 a where x = 1; wish 3 a;"), 7, 11, 13, 14, 15);
    pieces(Check.with("table a: x; table b: x; row a: 1; row b: 1;", "wish 1 b;"), 2, 3);
    pieces(Check.with("table a: x;", "wish 1 a;"));
  }

  private static void laws() {
    CHECK.sentence("each law: of each ROW of the first table that is in at least N ROWS of the second table"
        + " link to it by that column and are in");
    least(TWO, "law a needs 1 b by z;", 0);
    least(TWO, "law a needs 1 b by z; wish 1 a;", bits(0, 2));
    least(TWO, "law a needs 2 b by z; wish 1 a where x = 1;", bits(0, 2, 3));
    least(TWO, "law a needs 1 b by z; wish 2 a;", bits(0, 1, 2, 4));
    least(TWO, "law a needs 2 b by z; wish 1 b where y = 3;", bits(1, 4));
    TruePiece x = Check.with(TWO, "law a needs 2 b by z;");
    CHECK.due("one of two", x.piece(bits(0, 2)), 0);
    CHECK.due("both", x.piece(bits(0, 2, 3)), 1);
    String columns = "table a: x; table b: y to a, z to a; row a: 1; row b: #0, -; row b: -, #0;";
    pieces(Check.with(columns, "law a needs 1 b by z;"), 0, 5, 7);
    pieces(Check.with(columns, "law a needs 1 b by y;"), 0, 3, 7);
    // A row that links to itself helps itself.
    pieces(Check.with("table a: x to a; row a: #0; row a: #0;", "law a needs 1 a by x;"), 0, 1, 3);
    pieces(Check.with("table a: x to a; row a: #0; row a: #0;", "law a needs 2 a by x;"), 0, 3);
    CHECK.sentence("or all of these that are not GONE");
    x = Check.with(TWO, "law a needs 16 b by z; wish 1 a where x = 1;");
    CHECK.due("all that there are", x.least(), bits(0, 2, 3));
    x.gone(3);
    CHECK.due("all that are left", x.least(), bits(0, 2));
    x.gone(2);
    CHECK.due("none is left", x.least(), bits(0));
    CHECK.due("alone it is a piece", x.piece(bits(0)), 1);
    Check.wishes(x, "law a needs 1 b by z; wish 1 a where x = 1;");
    CHECK.due("so it is by a new law", x.least(), bits(0));
    least("table a: x; table b: z to a; row a: 1;", "law a needs 1 b by z; wish 1 a;", bits(0));
    lawsOfSixteen();
  }

  /** A full store: all rows link to the last one, which ten laws ask for all of them. */
  private static void lawsOfSixteen() {
    TruePiece x = Check.with("table a: x to a;" + "row a: #15;".repeat(16),
        "law a needs 16 a by x;".repeat(9) + "wish 1 a;");
    CHECK.due("all of 16", x.least(), 65535);
    CHECK.due("why the last", x.why(15), 2);
    CHECK.due("why the first", x.why(0), 3);
    CHECK.due("the last can't go", x.gone(15), false);
    CHECK.due("the first can", x.gone(0), true);
    CHECK.due("all that are left", x.least(), 65534);
    Check.wishes(x, "law a needs 16 a by x;".repeat(10));
    CHECK.due("ten laws of sixteen rows each", x.least(), 0);
    CHECK.due("all that are left", x.piece(65534), 1);
    CHECK.due("all but one", x.piece(65532), 0);
    CHECK.due("another one can go", x.gone(1), true);
    CHECK.due("all that are left", x.piece(65532), 1);
    x = Check.with("table a: x;" + "row a: 1;".repeat(15) + "row a: 2;", "wish 1 a where x = 2;");
    CHECK.due("the last of 16", x.least(), 32768);
  }

  private static void least() {
    CHECK.sentence("LEAST is the PIECE of fewest ROWS");
    least(FOUR, "", 0);
    least("table a: x to a; row a: #1; row a: -; row a: -;", "wish 1 a;", bits(1));
    least("table a: x, y to a; row a: 1, #1; row a: 0, #2; row a: 0, -; row a: 1, #2;",
        "wish 1 a where x = 1;", bits(2, 3));
    least("table a: x;" + "row a: 1;".repeat(16), "wish 16 a;", 65535);
    CHECK.sentence("of like ones the one that has the least numbers"
        + " (of the first ROW at which two differ, the one that has it)");
    least(FOUR, "wish 1 a;", bits(0));
    least(FOUR, "wish 2 a;", bits(0, 1));
    least(FOUR, "wish 1 a where x = 2;", bits(1));
    // 0 and 5 against 1 and 2: the first row decides, not the last one, and not the sum.
    least("table a: x, y to a; row a: 1, #5; row a: 1, #2; row a: 0, -; row a: 0, -; row a: 0, -; row a: 0, -;",
        "wish 1 a where x = 1;", bits(0, 5));
    least("table a: x;" + "row a: 1;".repeat(16), "wish 15 a;", 32767);
  }

  private static void kept() {
    CHECK.sentence("KEPT is one as it was kept.");
    TruePiece x = Check.with(FOUR, "wish 2 a;");
    x.keep();
    x.gone(0);
    CHECK.due("with a gone row", x.about(4), bits(0, 1));
    Check.wishes(x, "wish 3 a;");
    CHECK.due("by other wishes", x.about(4), bits(0, 1));
    Check.wishes(x, "wish 4 a;");
    CHECK.due("without a piece", x.about(4), bits(0, 1));
  }

  private static void steady() {
    CHECK.sentence("STEADY is the PIECE that differs from KEPT in fewest ROWS (those that came, and those that went");
    TruePiece x = Check.with(FOUR, "wish 2 a where x = 2;");
    x.keep();
    Check.wishes(x, "wish 1 a;");
    CHECK.due("none came, none went", x.steady(), bits(1, 3));
    CHECK.due("least would differ", x.least(), bits(0));
    Check.wishes(x, "wish 3 a;");
    CHECK.due("one came", x.steady(), bits(0, 1, 3));
    Check.wishes(x, "wish 1 a where x = 1;");
    CHECK.due("one came, none went", x.steady(), bits(0, 1, 3));
    CHECK.sentence("GONE ones aside)");
    x.gone(1);
    CHECK.due("a gone one is none that went", x.steady(), bits(0, 3));
    Check.wishes(x, "");
    CHECK.due("the other one stays", x.steady(), bits(3));
    x.gone(3);
    CHECK.due("all of them are gone", x.steady(), 0);
    CHECK.sentence("of like ones the one of fewest ROWS");
    x = Check.with("table a: x; table b: y to a; row a: 1; row b: #0;", "wish 1 a;");
    x.keep();
    Check.wishes(x, "law a needs 1 b by y;");
    CHECK.due("one went, rather than one came", x.steady(), 0);
    x = Check.with("table a: x; table b: y to a; row a: 1; row b: #0; row b: #0;", "wish 1 a;");
    x.keep();
    Check.wishes(x, "law a needs 1 b by y; wish 1 a;");
    CHECK.due("it can't go", x.steady(), bits(0, 1));
    CHECK.sentence("then as above.");
    x = Check.with(FOUR, "wish 1 a where x = 2;");
    x.keep();
    Check.wishes(x, "wish 2 a;");
    CHECK.due("of 0, 2 and 3 the least comes", x.steady(), bits(0, 1));
    x = Check.with("table a: x to a, y to a; row a: -, -; row a: -, -; row a: #0, #1;", "wish 3 a;");
    x.keep();
    Check.wishes(x, "law a needs 1 a by y;");
    CHECK.due("nothing need go", x.steady(), 7);
    CHECK.sentence("that of nothing KEPT is LEAST");
    x = Check.with(FOUR, "wish 1 a where x = 2;");
    CHECK.due("steady", x.steady(), bits(1));
    CHECK.due("nothing is kept by that", x.about(4), 0);
  }

  private static void why() {
    CHECK.sentence("WHY a ROW is in LEAST: 1 without it a wish would not be met (the ROWS counted that are left)");
    TruePiece x = Check.with(FOUR, "wish 2 a; wish 2 a where x = 2;");
    CHECK.due("least", x.least(), bits(1, 3));
    CHECK.due("each is needed", x.why(1), 1);
    CHECK.due("each is needed", x.why(3), 1);
    x = Check.with("table a: x to a; row a: -; row a: #0;", "wish 2 a;");
    CHECK.due("a wish goes ahead of a link", x.why(0), 1);
    CHECK.sentence("else 2 some other ROW in it links to it");
    x = Check.with("table a: x, y to a; row a: 1, -; row a: 2, #0;", "wish 1 a where x = 2; wish 1 a;");
    CHECK.due("the other one meets the wish", x.why(0), 2);
    CHECK.due("it is wished for", x.why(1), 1);
    x = Check.with("table a: x to a; row a: #1; row a: #0;", "wish 1 a;");
    CHECK.due("either would meet the wish", x.why(0), 2);
    CHECK.due("either would meet the wish", x.why(1), 2);
    CHECK.sentence("else 3 (a law needs it).");
    x = Check.with(TWO, "wish 1 a where x = 1; law a needs 2 b by z;");
    CHECK.due("needed", x.why(2), 3);
    CHECK.due("needed", x.why(3), 3);
    CHECK.due("wished for", x.why(0), 1);
    x = Check.with("table a: x; table b: y to b, z to a; row a: 1; row b: #0, #0;", "wish 1 a; law a needs 1 b by z;");
    CHECK.due("it links to itself, which is no other row", x.why(1), 3);
    x = Check.with("table a: x; table b: y to b, z to a; row a: 1; row b: -, #0; row b: #0, #0;",
        "wish 1 a; law a needs 1 b by z;");
    CHECK.due("what links to it is not in", x.why(1), 3);
    x = Check.with("table a: x, y to a; row a: 1, -; row a: 2, #0;", "law a needs 1 a by y; wish 1 a where x = 1;");
    CHECK.due("needed", x.why(1), 3);
  }

  private static void order() {
    CHECK.sentence("ORDER of LEAST: ROW by ROW that comes next which is the least of those"
        + " that link to none that is not placed yet (to itself aside)");
    dueOrder("table a: x to a; row a: #2; row a: #0; row a: -; row a: -;", "wish 4 a;", 2, 0, 1, 3);
    dueOrder("table a: x to a; row a: #3; row a: -; row a: #2; row a: #1;", "wish 4 a;", 1, 2, 3, 0);
    dueOrder("table a: x to a; row a: #0; row a: #1;", "wish 2 a;", 0, 1);
    dueOrder("table a: x to a, y to a; row a: #0, #1; row a: -, -;", "wish 2 a;", 1, 0);
    dueOrder(FOUR, "wish 2 a where x = 2;", 1, 3);
    dueOrder(FOUR, "");
  }

  private static void rings() {
    CHECK.sentence("if there is none such, those left are in RINGS: none of them has a place.");
    dueOrder("table a: x to a; row a: #1; row a: #0;", "wish 1 a;");
    dueOrder("table a: x to a; row a: #1; row a: #0; row a: -;", "wish 3 a;", 2);
    // Row 2 is in no ring, but links to one.
    dueOrder("table a: x to a; row a: #1; row a: #0; row a: #0; row a: #3;", "wish 4 a;", 3);
    dueOrder("table a: x to a; row a: #1; row a: #2; row a: #0; row a: -;", "wish 4 a;", 3);
    StringBuilder ring = new StringBuilder("table a: x to a;");
    for (int row = 0; row < 16; row++) {
      ring.append("row a: #").append((row + 1) % 16).append(';');
    }
    dueOrder(ring.toString(), "wish 1 a;");
  }

  /** Those of LEAST that are not in the order are due to be in rings. */
  private static void dueOrder(String store, String wishes, int... rows) {
    TruePiece x = Check.with(store, wishes);
    String of = " of " + store;
    for (int k = 0; k < rows.length; k++) {
      CHECK.due("order " + k + of, x.order(k), rows[k]);
    }
    CHECK.due("order behind the last" + of, x.order(rows.length), NONE);
    CHECK.due("rings" + of, x.rings(), Integer.bitCount(x.least()) - rows.length);
  }

  private static void turned() {
    CHECK.sentence("HIDDEN columns (no LINKS) show TURNED values: (value * (2 * key + 1) + key) modulo 1048576,"
        + " by their key (0 .. 9999)");
    long[][] due = {{0, 0, 0}, {0, 9999, 9999}, {1, 0, 1}, {7, 1, 22}, {999999, 0, 999999}, {999999, 1, 902846},
        {349525, 1, 0}, {349524, 1, 1048573}, {999999, 9999, (999999L * 19999 + 9999) % 1048576}, {52, 9999, 1371}};
    for (long[] row : due) {
      TruePiece x = Check.with("table a: x; row a: " + row[0] + ";", "");
      x.hide(0, 0, (int) row[1]);
      CHECK.due(row[0] + " turned by " + row[1], x.shown(0, 0), row[2]);
      CHECK.due("the value itself", x.value(0, 0), row[0]);
    }
    CHECK.sentence("none stays none");
    TruePiece x = Check.with("table a: x; row a: -; row a: 3;", "");
    x.hide(0, 0, 5);
    CHECK.due("none", x.shown(0, 0), NONE);
    CHECK.due("one", x.shown(1, 0), 38);
  }

  private static void weight() {
    CHECK.sentence("WEIGHT of a column (no LINK) in LEAST: the sum of its values over all ROWS of its table"
        + " that are not GONE, by that over those in LEAST, as a fraction in lowest terms");
    TruePiece x = Check.with("table a: x; table b: x; row a: 4; row b: 100; row a: 6; row a: -; row a: 8;",
        "wish 2 a;");
    dueWeight(x, 0, 9, 5);
    x.gone(4);
    dueWeight(x, 0, 1, 1);
    Check.wishes(x, "wish 1 a where x = 6;");
    dueWeight(x, 0, 5, 3);
    Check.wishes(x, "wish 1 a where x = 4;");
    dueWeight(x, 0, 5, 2);
    x = Check.with("table a: x; row a: 5; row a: 0;", "wish 1 a;");
    dueWeight(x, 0, 1, 1);
    x = Check.with("table a: x;" + "row a: 999999;".repeat(16), "wish 1 a;");
    dueWeight(x, 0, 16, 1);
    x = Check.with("table a: x; row a: 1;" + "row a: 999999;".repeat(15), "wish 1 a;");
    dueWeight(x, 0, 14999986, 1);
    CHECK.sentence("none if the second is 0.");
    x = Check.with("table a: x; row a: 0; row a: 5; row a: -;", "wish 1 a;");
    dueWeight(x, 0, NONE, NONE);
    Check.wishes(x, "wish 1 a where x = -;");
    dueWeight(x, 0, NONE, NONE);
    Check.wishes(x, "");
    dueWeight(x, 0, NONE, NONE);
    dueWeight(Check.with("table a: x; row a: 0;", "wish 1 a;"), 0, NONE, NONE);
    dueWeight(Check.with("table a: x;", ""), 0, NONE, NONE);
  }

  private static void dueWeight(TruePiece x, int table, int numerator, int denominator) {
    CHECK.due("numerator", x.weight(table, 0, false), numerator);
    CHECK.due("denominator", x.weight(table, 0, true), denominator);
  }
}
