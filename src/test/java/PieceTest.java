/** Promises 10 to 17: gone, least, keep, steady, piece, why, order and rings. */
public final class PieceTest {
  private static final Check CHECK = new Check();
  private static final int NONE = TruePiece.NONE;
  private static final String SIX = "table a: x; row a:1; row a:2; row a:1; row a:2; row a:1; row a:2;";

  public static void main(String[] args) {
    gone();
    least();
    laws();
    steady();
    keepAsItWas();
    piece();
    why();
    order();
    noPiece();
    CHECK.finish("PieceTest");
  }

  private static void gone() {
    TruePiece x = Check.with("table a: x to a; row a: -; row a: #0; row a: #1; row a: #3;", "wish 1 a;");
    CHECK.due("linked to", x.gone(0), false);
    CHECK.due("linked to by one that is not gone", x.gone(1), false);
    CHECK.due("linked to by itself", x.gone(3), false);
    CHECK.due("row 4", x.gone(4), false);
    CHECK.due("row -1", x.gone(-1), false);
    CHECK.due("row far off", x.gone(Integer.MIN_VALUE), false);
    CHECK.due("none is gone", x.about(3), 0);
    CHECK.due("linked to by none", x.gone(2), true);
    CHECK.due("gone already", x.gone(2), false);
    CHECK.due("linked to by a gone one", x.gone(1), true);
    CHECK.due("gone ones", x.about(3), 2);
    CHECK.due("then the first", x.gone(0), true);
    CHECK.due("least of what is left", x.least(), Check.bits(3));
    CHECK.due("a piece with a gone row", x.piece(Check.bits(0, 3)), 0);
    x = Check.with(SIX, "wish 2 a where x = 1;");
    CHECK.due("least", x.least(), Check.bits(0, 2));
    x.gone(2);
    CHECK.due("least without 2", x.least(), Check.bits(0, 4));
    x.gone(0);
    CHECK.due("least without 0", x.least(), NONE);
  }

  private static void least() {
    least(SIX, "", 0);
    least(SIX, "wish 1 a;", Check.bits(0));
    least(SIX, "wish 1 a where x=2;", Check.bits(1));
    least(SIX, "wish 2 a where x=2; wish 1 a where x=1; wish 3 a;", Check.bits(0, 1, 3));
    least(SIX, "wish 6 a;", Check.bits(0, 1, 2, 3, 4, 5));
    least(SIX, "wish 7 a;", NONE);
    least(SIX, "wish 4 a where x=2;", NONE);
    // Row 0 brings two others along, so that fewer rows with greater numbers are better.
    String chain = "table a: x to a; row a:#1; row a:#2; row a:-; row a:-; row a:#3;";
    least(chain, "wish 1 a;", Check.bits(2));
    least(chain, "wish 2 a;", Check.bits(1, 2));
    least(chain, "wish 3 a;", Check.bits(0, 1, 2));
    // Of like ones the first row at which two differ decides, not the sum or the last.
    least("table a: x, y to a; row a:1,#5; row a:2,#4; row a:2,#3; row a:0,-; row a:0,-; row a:0,-;",
        "wish 1 a where x > 0;", Check.bits(0, 5));
    least("table a: x; " + "row a:1;".repeat(16), "wish 16 a;", 65535);
    least("table a: x; " + "row a:1;".repeat(16), "wish 8 a;", 255);
  }

  private static void least(String store, String wishes, int due) {
    TruePiece x = Check.with(store, wishes);
    CHECK.due("least of " + store + " by " + wishes, x.least(), due);
    CHECK.due("the same again", x.least(), due);
    CHECK.due("steady of nothing kept", x.steady(), due);
  }

  private static void laws() {
    String store = "table a: x; table b: y, z to a, w to a;"
        + "row a:1; row a:2; row b:1,#0,-; row b:2,#0,#1; row b:3,#0,-; row b:4,-,#0;";
    least(store, "law a needs 2 b by z;", 0);
    least(store, "law a needs 2 b by z; wish 1 a where x=1;", Check.bits(0, 2, 4));
    least(store, "law a needs 16 b by z; wish 1 a where x=1;", Check.bits(0, 1, 2, 3, 4));
    least(store, "law a needs 1 b by w; wish 1 a where x=1;", Check.bits(0, 5));
    // Row 3 is needed by 1 through w, and draws 0 in, which needs one by w in its turn.
    least(store, "law a needs 1 b by w; wish 1 a where x=2;", Check.bits(0, 1, 3, 5));
    least(store, "law a needs 1 b by z; wish 1 a where x=2;", Check.bits(1));
    // Ten laws bind sixteen rows each: a ring of all.
    StringBuilder ring = new StringBuilder("table a: x to a;");
    for (int row = 0; row < 16; row++) {
      ring.append("row a:#").append((row + 1) % 16).append(';');
    }
    least(ring.toString(), "law a needs 1 a by x;".repeat(10), 0);
    least(ring.toString(), "law a needs 1 a by x;".repeat(9) + "wish 1 a;", 65535);
    TruePiece x = Check.with(store, "law a needs 3 b by z; wish 1 a where x=1;");
    x.gone(3);
    CHECK.due("all that are left", x.least(), Check.bits(0, 2, 4));
    x.gone(2);
    x.gone(4);
    CHECK.due("none is left", x.least(), Check.bits(0));
  }

  private static void steady() {
    TruePiece x = Check.with(SIX, "wish 2 a where x=2;");
    CHECK.due("keep", x.keep(), true);
    CHECK.due("kept", x.about(4), Check.bits(1, 3));
    CHECK.due("steady, nothing new", x.steady(), Check.bits(1, 3));
    Check.wishes(x, "wish 2 a;");
    CHECK.due("least", x.least(), Check.bits(0, 1));
    CHECK.due("steady", x.steady(), Check.bits(1, 3));
    Check.wishes(x, "wish 3 a;");
    CHECK.due("steady with one more", x.steady(), Check.bits(0, 1, 3));
    Check.wishes(x, "");
    CHECK.due("steady without a wish", x.steady(), Check.bits(1, 3));
    x.gone(1);
    CHECK.due("steady without a gone row", x.steady(), Check.bits(3));
    Check.wishes(x, "wish 2 a where x=2;");
    CHECK.due("steady with another for it", x.steady(), Check.bits(3, 5));
    x.keep();
    Check.wishes(x, "wish 7 a;");
    CHECK.due("no steady piece", x.steady(), NONE);
    CHECK.due("nothing kept of it", x.keep(), false);
    CHECK.due("kept stays", x.about(4), Check.bits(3, 5));
    // Leaving one row out and taking one in are both one change: then fewest rows count.
    String pair = "table a: x, y to a; row a:0,-; row a:1,-; row a:2,#3; row a:3,-;";
    x = Check.with(pair, "wish 2 a where x < 2;");
    x.keep();
    Check.wishes(x, "law a needs 1 a by y; wish 1 a where x = 3;");
    CHECK.due("came 2", x.steady(), Check.bits(0, 1, 2, 3));
    x = Check.with("table a: x; table b: y to a; row a: 1; row b: #0;", "wish 1 a;");
    x.keep();
    Check.wishes(x, "law a needs 1 b by y;");
    CHECK.due("one came or one went", x.steady(), 0);
  }

  private static void keepAsItWas() {
    TruePiece x = Check.with(SIX, "wish 2 a;");
    CHECK.due("keep", x.keep(), true);
    x.gone(0);
    CHECK.due("kept as it was", x.about(4), Check.bits(0, 1));
    CHECK.due("least moves on", x.least(), Check.bits(1, 2));
    CHECK.due("keep again", x.keep(), true);
    CHECK.due("kept anew", x.about(4), Check.bits(1, 2));
    Check.wishes(x, "");
    CHECK.due("keep nothing", x.keep(), true);
    CHECK.due("an empty piece kept", x.about(4), 0);
  }

  private static void piece() {
    TruePiece x = Check.with("table a: x to a; row a:-; row a:#0; row a:#1; row a:#3;",
        "wish 1 a; law a needs 1 a by x;");
    int[] pieces = {8, 7, 15};
    for (int set = 0; set < 16; set++) {
      boolean is = set == pieces[0] || set == pieces[1] || set == pieces[2];
      CHECK.due("piece " + set, x.piece(set), is ? 1 : 0);
    }
    CHECK.due("piece beyond", x.piece(16), NONE);
    CHECK.due("piece partly beyond", x.piece(8 + 16), NONE);
    CHECK.due("piece -1", x.piece(-1), NONE);
    CHECK.due("piece of the highest bit", x.piece(Integer.MIN_VALUE), NONE);
    Check.wishes(x, "wish 16 a;");
    CHECK.due("no piece at all", x.piece(15), 0);
    CHECK.due("nor beyond", x.piece(16), NONE);
    x = Check.with("table a: x;" + "row a:1;".repeat(16), "");
    CHECK.due("all of 16", x.piece(65535), 1);
    CHECK.due("beyond 16", x.piece(65536), NONE);
  }

  private static void why() {
    String store = "table a: x; table b: y, z to a;"
        + "row a:1; row a:2; row b:1,#0; row b:2,#0; row b:3,#1; row a:3;";
    TruePiece x = Check.with(store, "wish 1 b where y=2; law a needs 2 b by z;");
    CHECK.due("least", x.least(), Check.bits(0, 2, 3));
    CHECK.due("why linked", x.why(0), 2);
    CHECK.due("why needed", x.why(2), 3);
    CHECK.due("why wished", x.why(3), 1);
    CHECK.due("why not", x.why(5), 0);
    CHECK.due("why row 6", x.why(6), NONE);
    CHECK.due("why row -1", x.why(-1), NONE);
    // A wish goes ahead of a link, but only where it would not be met without the row.
    x = Check.with(store, "wish 1 b where y=2; wish 1 a;");
    CHECK.due("wished and linked", x.why(0), 1);
    x = Check.with("table a: x to a; row a:#0; row a:#2; row a:#1;", "wish 1 a;");
    CHECK.due("least, linked to itself", x.least(), Check.bits(0));
    CHECK.due("why, linked to itself", x.why(0), 1);
    x = Check.with("table a: x to a; row a:#1; row a:#0; row a:-;", "wish 1 a; law a needs 1 a by x;");
    x.gone(2);
    CHECK.due("least of a ring", x.least(), Check.bits(0, 1));
    CHECK.due("either would do for the wish", x.why(0), 2);
    // It links to itself alone: that is no other row.
    x = Check.with("table a: v to a; table b: y to b, z to a; row a:-; row b:#0,#0;",
        "wish 1 a; law a needs 1 b by z;");
    CHECK.due("least with a row linked to itself", x.least(), Check.bits(0, 1));
    CHECK.due("needed, linked to itself", x.why(1), 3);
  }

  private static void order() {
    TruePiece x = Check.with("table a: x to a; row a:#3; row a:-; row a:#1; row a:#2; row a:#4; row a:-;",
        "wish 5 a;");
    CHECK.due("least", x.least(), Check.bits(0, 1, 2, 3, 4));
    due(x, 1, 2, 3, 0, 4);
    CHECK.due("rings", x.rings(), 0);
    CHECK.due("order -1", x.order(-1), NONE);
    CHECK.due("order far off", x.order(Integer.MAX_VALUE), NONE);
    // Rows 1 and 2 are a ring, 0 hangs on it, 3 is free.
    x = Check.with("table a: x to a; row a:#1; row a:#2; row a:#1; row a:-;", "wish 4 a;");
    due(x, 3);
    CHECK.due("rings", x.rings(), 3);
    Check.wishes(x, "wish 1 a;");
    due(x, 3);
    CHECK.due("no rings", x.rings(), 0);
    x = Check.with("table a: x; " + "row a:1;".repeat(16), "wish 16 a;");
    due(x, 0, 1, 2, 3, 4, 5, 6, 7, 8, 9, 10, 11, 12, 13, 14, 15);
    Check.wishes(x, "");
    due(x);
    CHECK.due("rings of nothing", x.rings(), 0);
    // The least free one comes next, even if a greater one was free for longer.
    x = Check.with("table a: x to a; row a:#2; row a:#3; row a:-; row a:-;", "wish 4 a;");
    due(x, 2, 0, 3, 1);
  }

  private static void due(TruePiece x, int... rows) {
    for (int k = 0; k < rows.length; k++) {
      CHECK.due("order " + k, x.order(k), rows[k]);
    }
    CHECK.due("order behind the last", x.order(rows.length), NONE);
    CHECK.due("order far behind the last", x.order(16), NONE);
  }

  private static void noPiece() {
    TruePiece x = Check.with(SIX, "wish 1 a;");
    x.keep();
    Check.wishes(x, "wish 7 a;");
    CHECK.due("least", x.least(), NONE);
    CHECK.due("steady", x.steady(), NONE);
    CHECK.due("why", x.why(0), NONE);
    CHECK.due("order", x.order(0), NONE);
    CHECK.due("rings", x.rings(), NONE);
    CHECK.due("keep", x.keep(), false);
    CHECK.due("kept", x.about(4), Check.bits(0));
    CHECK.due("weight", x.weight(0, 0, false), NONE);
    Check.wishes(x, "wish 6 a;");
    CHECK.due("a piece again", x.least(), Check.bits(0, 1, 2, 3, 4, 5));
    x.gone(5);
    CHECK.due("and none again", x.least(), NONE);
  }
}
