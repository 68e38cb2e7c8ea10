/** All that can be asked of an object, in one text: what a refused call must leave as it was. */
final class View {
  private View() {}

  /** All but the fault and the bytes on the tape, which a faulty text may change. */
  static String of(TruePiece x) {
    StringBuilder seen = new StringBuilder("about");
    for (int what = 0; what <= 4; what++) {
      put(seen, x.about(what));
    }
    for (int table = 0; table < x.about(0); table++) {
      put(seen, x.about(10 + table));
      put(seen, x.about(20 + table));
      put(seen, x.weight(table, 0, false));
      put(seen, x.weight(table, 0, true));
    }
    for (int row = 0; row < x.about(1); row++) {
      ofRow(x, row, seen.append(" row"));
    }
    put(seen.append(" least"), x.least());
    put(seen.append(" steady"), x.steady());
    put(seen.append(" rings"), x.rings());
    return seen.toString();
  }

  /** With the fault and the bytes on the tape, too. */
  static String whole(TruePiece x) {
    StringBuilder seen = new StringBuilder(of(x));
    put(seen.append(" fault"), x.fault(0));
    put(seen, x.fault(1));
    put(seen.append(" tape"), x.about(5));
    return seen.toString();
  }

  private static void ofRow(TruePiece x, int row, StringBuilder seen) {
    for (int what = 0; what <= 2; what++) {
      put(seen, x.row(row, what));
    }
    for (int column = 0; column < 3; column++) {
      put(seen, x.value(row, column));
      put(seen, x.shown(row, column));
    }
    for (int wish = 0; wish < x.about(2); wish++) {
      put(seen, x.holds(wish, row));
    }
    put(seen, x.why(row));
    put(seen, x.order(row));
  }

  private static void put(StringBuilder seen, int answer) {
    seen.append(' ').append(answer);
  }
}
