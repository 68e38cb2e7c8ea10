/** Promises 4, 6, 7, 8 and 21: the store's grammar, limits, faults, and what is asked of it. */
public final class StoreTest {
  private static final Check CHECK = new Check();
  private static final int NONE = TruePiece.NONE;
  private static final String PLACES =
      "table town: size; table man: age, town to town, boss to man;"
          + "row town: 5; row man: 30, #0, -; row town: 9; row man: -, #1, #0; row man: 7, -, #2;";

  public static void main(String[] args) {
    asking();
    takingTheOldPlace();
    faultsChangeNothing();
    right();
    noTokens();
    misplaced();
    tooMany();
    names();
    links();
    full();
    CHECK.finish("StoreTest");
  }

  private static void asking() {
    TruePiece x = Check.with(PLACES, "wish 1 man; law town needs 1 man by town;");
    int[][] abouts = {{0, 2}, {1, 5}, {2, 2}, {3, 0}, {4, 0}, {5, 0}, {10, 1}, {11, 3}, {20, 2},
        {21, 3}, {6, NONE}, {9, NONE}, {12, NONE}, {15, NONE}, {19, NONE}, {22, NONE}, {25, NONE},
        {30, NONE}, {-1, NONE}, {Integer.MIN_VALUE, NONE}, {Integer.MAX_VALUE, NONE}};
    for (int[] about : abouts) {
      CHECK.due("about " + about[0], x.about(about[0]), about[1]);
    }
    int[][] rows = {{0, 0}, {1, 0}, {0, 1}, {1, 1}, {1, 2}};
    for (int row = 0; row < rows.length; row++) {
      CHECK.due("table of " + row, x.row(row, 0), rows[row][0]);
      CHECK.due("number of " + row, x.row(row, 1), rows[row][1]);
      CHECK.due("gone " + row, x.row(row, 2), 0);
      CHECK.due("row what 3", x.row(row, 3), NONE);
      CHECK.due("row what -1", x.row(row, -1), NONE);
    }
    CHECK.due("row 5", x.row(5, 0), NONE);
    CHECK.due("row -1", x.row(-1, 0), NONE);
    CHECK.due("row far off", x.row(Integer.MAX_VALUE, 1), NONE);
    int[][] values = {{5, NONE, NONE}, {30, 0, NONE}, {9, NONE, NONE}, {NONE, 2, 1}, {7, NONE, 4}};
    for (int row = 0; row < values.length; row++) {
      for (int column = 0; column < 3; column++) {
        CHECK.due("value " + row + "," + column, x.value(row, column), values[row][column]);
      }
      CHECK.due("value of column -1", x.value(row, -1), NONE);
      CHECK.due("value of column 3", x.value(row, 3), NONE);
    }
    CHECK.due("value of row 5", x.value(5, 0), NONE);
    CHECK.due("value of row -1", x.value(-1, 0), NONE);
    CHECK.due("gone", x.gone(4), false);
    CHECK.due("gone 3", x.gone(3), true);
    CHECK.due("row is gone", x.row(3, 2), 1);
    CHECK.due("gone rows", x.about(3), 1);
    CHECK.due("rows are still told", x.about(1), 5);
    CHECK.due("rows of the table, too", x.about(21), 3);
    CHECK.due("the value of a gone row", x.value(3, 1), 2);
    CHECK.due("fault what 2", x.fault(2), NONE);
    CHECK.due("fault what -1", x.fault(-1), NONE);
  }

  private static void takingTheOldPlace() {
    TruePiece x = Check.with(PLACES, "wish 1 man;");
    x.keep();
    x.gone(3);
    x.hide(1, 0, 7);
    CHECK.due("store", Check.store(x, PLACES), 5);
    CHECK.due("no wishes", x.about(2), 0);
    CHECK.due("none gone", x.about(3), 0);
    CHECK.due("none gone in row", x.row(3, 2), 0);
    CHECK.due("nothing kept", x.about(4), 0);
    CHECK.due("nothing hidden", x.shown(1, 0), 30);
    CHECK.due("least", x.least(), 0);
    CHECK.due("steady", x.steady(), 0);
    CHECK.due("an empty store", Check.store(x, " \n "), 0);
    CHECK.due("no tables", x.about(0), 0);
    CHECK.due("no rows", x.row(0, 0), NONE);
  }

  private static void faultsChangeNothing() {
    TruePiece x = Check.with(PLACES, "wish 1 man;");
    x.keep();
    x.gone(3);
    x.hide(1, 0, 7);
    String[] faulty = {"table a: x; row a: 1; row", "?", "table a: x to a; row a: #1;", "row man: 1;"};
    for (String text : faulty) {
      CHECK.due("store " + text, Check.store(x, text), NONE);
      CHECK.due("tables stay", x.about(0), 2);
      CHECK.due("rows stay", x.about(1), 5);
      CHECK.due("wishes stay", x.about(2), 1);
      CHECK.due("gone stay", x.about(3), 1);
      CHECK.due("kept stays", x.about(4), Check.bits(4));
      CHECK.due("hidden stay", x.shown(1, 0), 30 * 15 + 7);
      CHECK.due("values stay", x.value(4, 2), 4);
      CHECK.due("least stays", x.least(), Check.bits(4));
    }
    CHECK.due("the last fault", x.fault(0), 4);
    CHECK.due("its place", x.fault(1), 4);
    Check.store(x, "");
    CHECK.due("no fault", x.fault(0), 0);
    CHECK.due("no place", x.fault(1), NONE);
  }

  private static void right() {
    CHECK.storeRight("", 0);
    CHECK.storeRight("table a:b;", 0);
    CHECK.storeRight("table a:x,y;row a:1,-;row a:-,2;", 2);
    CHECK.storeRight("\ntable\na\n:\nx\nto\na\n;\nrow\na\n:\n#\n0\n;\n", 1);
    CHECK.storeRight("table a: a to a; row a: #1; row a: -;", 2);
    CHECK.storeRight("table abcdefgh: abcdefgh; row abcdefgh: 999999;", 1);
    CHECK.storeRight("table a: x; row a: 000001; table b: y to a; row b: #0; row a: 2;", 3);
    CHECK.storeRight("table a: x; table b: x; row a:1;row b:2;", 2);
    CHECK.storeRight("table a: vw,w,x,y,z; table b:x;table c:x;table d:x;table e:x;", 0);
    CHECK.storeRight("table a: x;" + "row a:1;".repeat(16), 16);
    CHECK.storeRight("table tables: rows, tow to tables; row tables:1,#000;", 1);
    TruePiece x = Check.with("table a: x; row a: 000012; row a: 0;", "");
    CHECK.due("zeros ahead", x.value(0, 0), 12);
    CHECK.due("zero", x.value(1, 0), 0);
  }

  private static void noTokens() {
    CHECK.storeFault("^?", 1);
    CHECK.storeFault("^Table a: x;", 1);
    CHECK.storeFault("table a: x; ^\tx", 1);
    CHECK.storeFault("table a^= x;", 1);
    CHECK.storeFault("table a: x^(", 1);
    CHECK.storeFault("table a^<", 1);
    CHECK.storeFault("table ^abcdefghi: x;", 1);
    CHECK.storeFault("table a: x; row a: ^1234567;", 1);
    CHECK.storeFault("table a: x; row a: ^12c;", 1);
    CHECK.storeFault("table a: x; row a: ^1a;", 1);
    CHECK.storeFault("table a: x; row a: ^1z", 1);
    CHECK.storeFault("table a: x; row a: 1^{", 1);
    CHECK.storeFault("table a: x; row a: 1^`", 1);
    CHECK.storeFault("table a: x; row a: 1^\u00e9;", 1);
    CHECK.storeFault("table a: x; row a: 1, ^?;", 1);
    CHECK.storeFault("table a: v,w,x,y,z, ^?", 1);
    CHECK.storeFault("table a: x; row a: ^\u0000;", 1);
  }

  private static void misplaced() {
    String[] faulty = {"^a", "^;", "^wish 1 a;", "^7", "table^", "table  ^", "table ^:", "table ^to: x;",
        "table ^wish: x;", "table ^needs: x;", "table ^or: x;", "table a^", "table a ^x;", "table a: ^;",
        "table a: ^by;", "table a: x^", "table a: x ^y;", "table a: x,^;", "table a: x to^",
        "table a: x to ^;", "table a: x to ^row;", "table a: x to a ^to a;", "table a: x ^.y;",
        "table a: x; ^x", "table a: x;^;", "table a: x; row^", "table a: x; row ^row: 1;",
        "table a: x; row a^", "table a: x; row a ^1;", "table a: x; row a: ^;",
        "table a: x; row a: ^x;", "table a: x; row a: 1^", "table a: x; row a: 1 ^2;",
        "table a: x; row a: -^1;", "table a: x; row a: 1 ^row", "table a: x; row a: ^.",
        "table a: x; row a: ^#0;", "table a: x to a; row a: ^0;", "table a: x to a; row a: #^-;",
        "table a: x to a; row a: #^", "table a: x to a; row a: # ^# 0;"};
    for (String text : faulty) {
      CHECK.storeFault(text, 2);
    }
  }

  private static void tooMany() {
    String five = "table a:x;table b:x;table c:x;table d:x;table e:x;";
    CHECK.storeFault(five + "^table f:x;", 2);
    CHECK.storeFault(five + "^table a:x;", 2);
    CHECK.storeFault("table a: x;" + "row a:1;".repeat(16) + "^row a:1;", 2);
    CHECK.storeFault("table a: x;" + "row a:1;".repeat(16) + "^row b:1;", 2);
    CHECK.storeFault("table a: v, w, x, y, z, ^u;", 2);
    CHECK.storeFault("table a: v, w, x, y, z, ^v;", 2);
    CHECK.storeFault("table a: x; row a: 1, ^2;", 2);
    CHECK.storeFault("table a: x; row a: 1, ^#0;", 2);
    CHECK.storeFault("table a: x; row a: 1, ^-;", 2);
    CHECK.storeFault("table a: v,w,x,y,z; row a: 1,2,3,4,5,^6;", 2);
    CHECK.storeFault("table a: x, y; row a: 1^;", 2);
    CHECK.storeFault("table a: x, y; row a: 1,^;", 2);
    CHECK.storeFault("table a: x, y, z to a; row a: 1, 2 ^;", 2);
  }

  private static void names() {
    CHECK.storeFault("table a: x; table ^a: y;", 3);
    CHECK.storeFault("table a: x; table ^a ?", 3);
    CHECK.storeFault("table a: x, y, ^x;", 3);
    CHECK.storeFault("table a: x, ^x to b;", 3);
    CHECK.storeFault("table a: x to ^b;", 4);
    CHECK.storeFault("table a: x to ^b; table b: y;", 4);
    CHECK.storeFault("table a: x to ^x;", 4);
    CHECK.storeFault("row ^a: 1;", 4);
    CHECK.storeFault("table a: x; row ^x: 1;", 4);
    CHECK.storeFault("table a: x; row ^aa: 1;", 4);
  }

  private static void links() {
    CHECK.storeFault("table a: x to a; row a: #^1;", 5);
    CHECK.storeFault("table a: x to a; row a: #1; row a: # ^2;", 5);
    CHECK.storeFault("table a: x to a, y to a; row a: #0, #^9; row a: #8, #7;", 5);
    CHECK.storeFault("table a: x to a; row a: #^999999;", 5);
    CHECK.storeFault("table a: x; table b: y to a; row b: #^0;", 5);
    CHECK.storeFault("table a: x; table b: y to a; row a: 1; row b: #^1; row b: -;", 5);
    // Any other fault goes ahead of a link to no row, wherever it stands.
    CHECK.storeFault("table a: x to a; row a: #5; row^", 2);
    CHECK.storeFault("table a: x to a; row a: #5; table ^a: x;", 3);
    CHECK.storeFault("table a: x to a; row a: #5; row ^b: 1;", 4);
    CHECK.storeFault("table a: x to a; row a: #5; ^?", 1);
    TruePiece x = Check.with("table a: x; table b: y to a, z to b; row b: #1, #1; row a: 1;"
        + "row b: #0, #0; row a: 2;", "");
    CHECK.due("a row told later", x.value(0, 0), 3);
    CHECK.due("a row told later, of its own table", x.value(0, 1), 2);
    CHECK.due("a row told ahead", x.value(2, 0), 1);
    CHECK.due("a row told ahead, of its own table", x.value(2, 1), 0);
  }

  /** All limits at once, so that whatever counts one too far is found out. */
  private static void full() {
    StringBuilder text = new StringBuilder();
    for (char name = 'a'; name <= 'e'; name++) {
      text.append("table ").append(name).append(":v,w to ").append(name).append(",x to a,y,z;");
    }
    for (int row = 0; row < 16; row++) {
      text.append("row ").append("abcde".charAt(row % 5)).append(":1,#0,#").append(row / 5).append(",-,");
      text.append(row).append(";");
    }
    CHECK.storeRight(text.toString(), 16);
    CHECK.storeFault(text + "^row a:1,-,-,-,-;", 2);
    CHECK.storeFault(text + "^table f:x;", 2);
    CHECK.storeFault(text + "^;", 2);
    CHECK.storeFault(text + "^?", 1);
    TruePiece x = Check.with(text.toString(), "wish 4 a; law a needs 16 e by x; wish 3 e where z > 0;");
    for (int row = 0; row < 16; row++) {
      CHECK.due("table", x.row(row, 0), row % 5);
      CHECK.due("number", x.row(row, 1), row / 5);
      CHECK.due("own link", x.value(row, 1), row % 5);
      CHECK.due("link", x.value(row, 2), row / 5 * 5);
      CHECK.due("last value", x.value(row, 4), row);
      CHECK.due("beyond it", x.value(row, 5), NONE);
      CHECK.due("shown beyond it", x.shown(row, 5), NONE);
    }
    CHECK.due("row 16", x.row(16, 0), NONE);
    CHECK.due("value of row 16", x.value(16, 0), NONE);
    CHECK.due("columns of the last table", x.about(14), 5);
    CHECK.due("rows of the last table", x.about(24), 3);
    CHECK.due("least", x.least(), Check.bits(0, 4, 5, 9, 10, 14, 15));
    CHECK.due("gone 15", x.gone(15), false);
    CHECK.due("gone 14", x.gone(14), true);
    CHECK.due("least", x.least(), NONE);
    CHECK.due("hide the last column", x.hide(4, 4, 1), true);
    CHECK.due("shown", x.shown(14, 4), 43);
    String[] ends = {"0", "9", "a", "z", " ", ";"};
    for (String end : ends) {
      // The 1200th byte is the last one; behind a number or a blank it is the end that is faulty.
      String most = "table a: x; row a:" + " ".repeat(1181);
      CHECK.storeFault(end.matches("[0-9 ]") ? most + end + "^" : most + "^" + end, 2);
    }
  }
}
