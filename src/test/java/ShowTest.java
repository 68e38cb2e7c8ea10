/** Promises 18 to 20: hide, shown and weight. */
public final class ShowTest {
  private static final Check CHECK = new Check();
  private static final int NONE = TruePiece.NONE;
  private static final String STORE = "table a: x, y; table b: z to a, v;"
      + "row a: 6, -; row a: 10, 0; row a: -, 999999; row b: #1, 4; row b: -, 2;";

  public static void main(String[] args) {
    hiding();
    turning();
    weighing();
    CHECK.finish("ShowTest");
  }

  private static void hiding() {
    TruePiece x = Check.with(STORE, "");
    CHECK.due("hide", x.hide(0, 0, 3), true);
    CHECK.due("shown", x.shown(0, 0), 45);
    CHECK.due("value", x.value(0, 0), 6);
    CHECK.due("the other column", x.shown(1, 1), 0);
    CHECK.due("none stays none", x.shown(2, 0), NONE);
    CHECK.due("hide by another key", x.hide(0, 0, 0), true);
    CHECK.due("shown by key 0", x.shown(0, 0), 6);
    CHECK.due("hide by the last key", x.hide(0, 0, 9999), true);
    CHECK.due("key 10000", x.hide(0, 0, 10000), false);
    CHECK.due("key -2", x.hide(0, 0, -2), false);
    CHECK.due("key far off", x.hide(0, 0, Integer.MIN_VALUE), false);
    CHECK.due("the last key holds", x.shown(0, 0), 6 * 19999 + 9999);
    CHECK.due("a link", x.hide(1, 0, 1), false);
    CHECK.due("a link shown", x.hide(1, 0, NONE), false);
    CHECK.due("a link as value", x.shown(3, 0), 1);
    CHECK.due("no table 2", x.hide(2, 0, 1), false);
    CHECK.due("no table -1", x.hide(-1, 0, 1), false);
    CHECK.due("no column 2", x.hide(0, 2, 1), false);
    CHECK.due("no column -1", x.hide(0, -1, 1), false);
    CHECK.due("no column -1 of table 1", x.hide(1, -1, 1), false);
    CHECK.due("show", x.hide(0, 0, NONE), true);
    CHECK.due("shown again", x.shown(0, 0), 6);
    CHECK.due("show what is shown", x.hide(0, 1, NONE), true);
    CHECK.due("shown row 5", x.shown(5, 0), NONE);
    CHECK.due("shown row -1", x.shown(-1, 0), NONE);
    CHECK.due("shown column 2", x.shown(0, 2), NONE);
    CHECK.due("shown column -1", x.shown(0, -1), NONE);
    x.hide(1, 1, 1);
    CHECK.due("of table 1", x.shown(3, 1), 13);
    x.gone(3);
    CHECK.due("of a gone row", x.shown(3, 1), 13);
  }

  private static void turning() {
    TruePiece x = Check.with(STORE, "");
    x.hide(0, 1, 9999);
    CHECK.due("beyond an int", x.shown(2, 1), (999999L * 19999 + 9999) % 1048576);
    CHECK.due("of 0", x.shown(1, 1), 9999);
    x.hide(0, 1, 1);
    CHECK.due("beyond the turn", x.shown(2, 1), 999999 * 3 + 1 - 2 * 1048576);
  }

  private static void weighing() {
    TruePiece x = Check.with(STORE, "wish 1 b where v = 4;");
    CHECK.due("least", x.least(), Check.bits(1, 3));
    due(x, 0, 0, 8, 5);
    due(x, 1, 1, 3, 2);
    due(x, 0, 1, NONE, NONE);
    due(x, 1, 0, NONE, NONE);
    due(x, 0, 2, NONE, NONE);
    due(x, 0, -1, NONE, NONE);
    due(x, 2, 0, NONE, NONE);
    due(x, -1, 0, NONE, NONE);
    x.hide(1, 1, 77);
    due(x, 1, 1, 3, 2);
    x.gone(4);
    due(x, 1, 1, 1, 1);
    Check.wishes(x, "wish 3 a;");
    due(x, 0, 0, 1, 1);
    due(x, 0, 1, 1, 1);
    due(x, 1, 1, NONE, NONE);
    Check.wishes(x, "");
    due(x, 0, 0, NONE, NONE);
    x = Check.with("table a: x; row a: 0; row a: 5;", "wish 1 a;");
    due(x, 0, 0, NONE, NONE);
    x = Check.with("table a: x; row a: 1;" + "row a: 999999;".repeat(15), "wish 1 a;");
    due(x, 0, 0, 999999 * 15 + 1, 1);
    Check.wishes(x, "wish 7 a where x > 1;");
    due(x, 0, 0, 999999 * 15 + 1, 999999 * 7);
  }

  private static void due(TruePiece x, int table, int column, int numerator, int denominator) {
    String what = "of weight " + table + "," + column;
    CHECK.due("numerator " + what, x.weight(table, column, false), numerator);
    CHECK.due("denominator " + what, x.weight(table, column, true), denominator);
  }
}
