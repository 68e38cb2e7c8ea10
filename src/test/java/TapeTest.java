/** Promises 1 to 3, and when the tape is emptied. */
public final class TapeTest {
  private static final Check CHECK = new Check();
  private static final int NONE = TruePiece.NONE;

  public static void main(String[] args) {
    newObject();
    feeding();
    ending();
    bytesInTheirOrder();
    emptying();
    tooLongForWishes();
    CHECK.finish("TapeTest");
  }

  private static void newObject() {
    TruePiece x = new TruePiece();
    for (int what = 0; what <= 5; what++) {
      CHECK.due("about " + what + " of a new object", x.about(what), 0);
    }
    CHECK.due("columns of no table", x.about(10), NONE);
    CHECK.due("rows of no table", x.about(20), NONE);
    CHECK.due("fault of nothing", x.fault(0), 0);
    CHECK.due("place of nothing", x.fault(1), NONE);
    CHECK.due("row", x.row(0, 0), NONE);
    CHECK.due("value", x.value(0, 0), NONE);
    CHECK.due("shown", x.shown(0, 0), NONE);
    CHECK.due("holds", x.holds(0, 0), NONE);
    CHECK.due("gone", x.gone(0), false);
    CHECK.due("least", x.least(), 0);
    CHECK.due("steady", x.steady(), 0);
    CHECK.due("piece of none", x.piece(0), 1);
    CHECK.due("piece beyond", x.piece(1), NONE);
    CHECK.due("why", x.why(0), NONE);
    CHECK.due("order", x.order(0), NONE);
    CHECK.due("rings", x.rings(), 0);
    CHECK.due("hide", x.hide(0, 0, 0), false);
    CHECK.due("weight", x.weight(0, 0, true), NONE);
    CHECK.due("keep", x.keep(), true);
  }

  private static void feeding() {
    TruePiece x = new TruePiece();
    for (int i = 1; i <= 60; i++) {
      CHECK.due("feed " + i, x.feed(i, -i, 0, 1, 2), 20 * i);
    }
    CHECK.due("feed 61", x.feed(0, 0, 0, 0, 0), NONE);
    CHECK.due("bytes", x.about(5), 1200);
    CHECK.due("end one too far", x.end(1181), 1181);
    CHECK.due("feed to 1201", x.feed(0, 0, 0, 0, 0), NONE);
    CHECK.due("bytes stay", x.about(5), 1181);
    CHECK.due("end", x.end(1180), 1180);
    CHECK.due("feed to 1200", x.feed(0, 0, 0, 0, 0), 1200);
  }

  private static void ending() {
    TruePiece x = new TruePiece();
    CHECK.due("end of nothing", x.end(0), 0);
    CHECK.due("end beyond nothing", x.end(1), NONE);
    x.feed(0, 0, 0, 0, 0);
    CHECK.due("end below 0", x.end(-1), NONE);
    CHECK.due("end far below 0", x.end(Integer.MIN_VALUE), NONE);
    CHECK.due("end beyond", x.end(21), NONE);
    CHECK.due("end far beyond", x.end(Integer.MAX_VALUE), NONE);
    CHECK.due("all bytes there", x.about(5), 20);
    CHECK.due("end at all", x.end(20), 20);
    CHECK.due("end at 7", x.end(7), 7);
    CHECK.due("bytes", x.about(5), 7);
    CHECK.due("what was cut off", x.end(8), NONE);
    CHECK.due("feed behind 7", x.feed(1, 2, 3, 4, 5), 27);
  }

  private static void bytesInTheirOrder() {
    TruePiece x = new TruePiece();
    // "tabl" "e a:" " x; " "row " "a:7;"
    x.feed(0x7461626c, 0x6520613a, 0x20783b20, 0x726f7720, 0x613a373b);
    CHECK.due("store", x.store(), 1);
    CHECK.due("value", x.value(0, 0), 7);
    x.feed(0x20202080, 0x20202020, 0x20202020, 0x20202020, 0x20202020);
    CHECK.due("a byte above 127", x.store(), NONE);
    CHECK.due("its fault", x.fault(0), 1);
    CHECK.due("its place", x.fault(1), 3);
    // What is fed behind end() stands directly behind the bytes that are left.
    x.feed(0x7461626c, 0x65206120, 0, 0, 0);
    x.end(7);
    x.feed(0x3a783b20, 0x20202020, 0x20202020, 0x20202020, 0x20202020);
    CHECK.due("two feeds, one text", x.store(), 0);
    CHECK.due("its table", x.about(0), 1);
  }

  private static void emptying() {
    TruePiece x = new TruePiece();
    Check.store(x, "table a: x;");
    CHECK.due("bytes behind store", x.about(5), 0);
    Check.wishes(x, "wish 1 a;");
    CHECK.due("bytes behind wishes", x.about(5), 0);
    Check.store(x, "table");
    CHECK.due("bytes behind a faulty store", x.about(5), 0);
    Check.wishes(x, "wish");
    CHECK.due("bytes behind faulty wishes", x.about(5), 0);
  }

  private static void tooLongForWishes() {
    TruePiece x = Check.with("table a: x; row a: 1;", "wish 1 a;");
    Check.wishes(x, "wish 1 b;");
    String blanks = " ".repeat(591);
    Check.type(x, "wish 1 a;" + blanks + " ");
    x.end(600);
    CHECK.due("600 bytes", x.wishes(), 1);
    Check.wishes(x, "wish 1 b;");
    Check.type(x, "wish 1 a;wish 1 a;" + blanks);
    CHECK.due("609 bytes", x.wishes(), -2);
    CHECK.due("they stay", x.about(5), 609);
    CHECK.due("the fault stays", x.fault(0), 4);
    CHECK.due("its place stays", x.fault(1), 7);
    CHECK.due("the wishes stay", x.about(2), 1);
    x.end(601);
    CHECK.due("601 bytes", x.wishes(), -2);
    x.end(600);
    CHECK.due("cut to 600", x.wishes(), 2);
    CHECK.due("no fault now", x.fault(0), 0);
    Check.type(x, "table a: x;" + " ".repeat(1189));
    CHECK.due("a store of 1200 bytes", x.store(), 0);
  }
}
