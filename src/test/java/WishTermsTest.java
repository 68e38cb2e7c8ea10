/** Part 2 of the terms, sentence by sentence: what wishes may be, and the edges of them. */
public final class WishTermsTest {
  private static final Check CHECK = new Check();
  private static final int NONE = TruePiece.NONE;
  private static final String STORE =
      "table t: s, near to t; table m: a, t to t, b to m;"
          + "row t: 5, #1; row t: 9, -; row t: -, #0;"
          + "row m: 30, #0, -; row m: 40, #1, #0; row m: -, -, #1; row m: 20, #2, #3; row m: 0, -, -;";
  private static final String[] RESERVED = {
      "table", "row", "to", "wish", "law", "where", "needs", "by", "not", "and", "or"};

  public static void main(String[] args) {
    length();
    grammar();
    tokens();
    reservedWords();
    count();
    numbers();
    pathCount();
    pathNames();
    nesting();
    columns();
    places();
    leastAtOnePlace();
    misplaced();
    notThere();
    pathValues();
    none();
    connectives();
    CHECK.finish("WishTermsTest");
  }

  private static void right(String text, int count) {
    CHECK.wishRight(STORE, text, count);
  }

  private static void fault(String marked, int code) {
    CHECK.wishFault(STORE, marked, code);
  }

  /** Of the rows 3 to 7, all of table m, those for which an e is due to hold, as 1 and 0. */
  private static void means(String e, String due) {
    TruePiece x = Check.with(STORE, "wish 1 m where " + e + ";");
    StringBuilder held = new StringBuilder();
    for (int row = 3; row < 8; row++) {
      held.append(x.holds(0, row));
    }
    CHECK.due(e, held.toString(), due);
  }

  private static void length() {
    CHECK.sentence("WISHES are a text of at most 600 bytes");
    String start = "wish 1 m where a = 30";
    String most = start + " ".repeat(600 - start.length() - 1) + ";";
    right(most, 1);
    fault(start + " ".repeat(600 - start.length()) + "^", 2);
    fault(start + " ".repeat(600 - start.length() - 1) + "^?", 1);
    TruePiece x = Check.with(STORE, "");
    CHECK.due("601 bytes", Check.wishes(x, most + " "), -2);
    x.end(600);
    CHECK.due("600 of them", x.wishes(), 1);
  }

  private static void grammar() {
    CHECK.sentence("wishes = {wish}.");
    right("", 0);
    right(" \n ", 0);
    CHECK.due("a tape that nothing was fed", new TruePiece().wishes(), 0);
    right("wish 1 m;law m needs 1 m by b;wish 2 t;", 3);
    CHECK.sentence("wish = wish N NAME [where e] ;  |  law NAME needs N NAME by NAME ;.");
    right("wish 1 m;", 1);
    right("wish 1 m where a = 1;", 1);
    right("law t needs 1 m by t;", 1);
    fault("wish 1 m where ^;", 2);
    fault("wish 1 m^", 2);
    fault("law t needs 1 m by t^", 2);
    fault("law t needs 1 m by t ^where a = 1;", 2);
    CHECK.sentence("e = both {or both}.  both = one {and one}.");
    right("wish 1 m where a = 1 or a = 2 and a = 3 and a = 4 or a = 5;", 1);
    fault("wish 1 m where a = 1 or^", 2);
    fault("wish 1 m where a = 1 and ^or a = 2;", 2);
    fault("wish 1 m where ^or a = 2;", 2);
    CHECK.sentence("one = not one | ( e ) | path (< | > | =) (N | -).");
    right("wish 1 m where not (a < 1) and a > - or (a = -);", 1);
    fault("wish 1 m where not ^;", 2);
    fault("wish 1 m where (^);", 2);
    fault("wish 1 m where (a = 1^;", 2);
    fault("wish 1 m where a = 1^);", 2);
    fault("wish 1 m where a^;", 2);
    fault("wish 1 m where a <^= 1;", 2);
    fault("wish 1 m where a = ^;", 2);
    CHECK.sentence("path = NAME {. NAME}.");
    right("wish 1 m where b.t.s = 1;", 1);
    fault("wish 1 m where b.^= 1;", 2);
    fault("wish 1 m where ^.a = 1;", 2);
  }

  private static void tokens() {
    CHECK.sentence("TOKENS as above, and < > = ( )");
    for (int c = 0; c < 256; c++) {
      if (c == 32 || c == 10) {
        right("wish" + (char) c + "1 m;" + (char) c, 1);
      } else {
        boolean token = c < 128 && Character.toString(c).matches("[-a-z0-9:,;#.<>=()]");
        fault("^" + (char) c, token ? 2 : 1);
        fault("wish 1 m;\n ^" + (char) c + " ", token ? 2 : 1);
      }
    }
    right("wish1 m where(a=1)or(a=2)and not(a<3);law t needs1 m by t;", 2);
    right("\nwish  1\nm where not ( a\n< 1 ) and b . t\n. s > - ; ", 1);
    fault("wish ^1m;", 1);
    fault("wish 1 m where a = ^1and a = 2;", 1);
    fault("wish 1 m where a = ^1234567;", 1);
    right("wish 1 m where a = 999999;", 1);
    fault("wish 1 ^mmmmmmmmm;", 1);
    fault("wish 1 ^mmmmmmmm;", 4);
    fault("^wishes 1 m;", 2);
    fault("wish 1 m where ^nota = 1;", 4);
  }

  private static void reservedWords() {
    CHECK.sentence("The words of WISHES and STORES (..) are no NAMES");
    for (String word : RESERVED) {
      fault("wish 1 ^" + word, 2);
      fault("wish 1 m where b.^" + word, 2);
      fault("law ^" + word, 2);
      fault("law t needs 1 ^" + word, 2);
      fault("law t needs 1 m by ^" + word, 2);
      if (!word.equals("not")) {
        fault("wish 1 m where ^" + word, 2);
      }
    }
  }

  private static void count() {
    CHECK.sentence("At most 10 of them");
    String ten = "wish 1 m;".repeat(7) + "law t needs 1 m by t;".repeat(3);
    right(ten, 10);
    TruePiece x = Check.with(STORE, "law t needs 1 m by t;".repeat(9) + "wish 1 t where s = 9;");
    CHECK.due("the tenth holds", x.holds(9, 1), 1);
    CHECK.due("the tenth does not", x.holds(9, 0), 0);
    CHECK.due("the tenth counts", x.least() >> 1 & 1, 1);
    CHECK.sentence("2 (an 11th: at its first word");
    fault(ten + "^wish 1 m;", 2);
    fault(ten + "^law t needs 1 m by t;", 2);
    fault(ten + "^wish 0 no", 2);
    fault(ten + "^wish ?", 2);
  }

  private static void numbers() {
    CHECK.sentence("N 1 .. 16");
    right("wish 1 m; wish 16 m; wish 000016 m;", 3);
    right("law t needs 1 m by t; law t needs 16 m by t; law t needs 000001 m by t;", 3);
    CHECK.sentence("6 an N that can't be");
    for (String n : new String[] {"0", "17", "000000", "000017", "999999", "100000"}) {
      fault("wish ^" + n + " m;", 6);
      fault("law t needs ^" + n + " m by t;", 6);
    }
    // It is the first fault, whatever stands behind it.
    fault("wish ^0 no;", 6);
    fault("wish ^17 ?", 6);
    // An N that a value is held against may be any.
    right("wish 1 m where a = 0 or a > 17 or a < 999999;", 1);
  }

  private static void pathCount() {
    CHECK.sentence("40 paths");
    String forty = "wish 1 m where a=0" + " or a=0".repeat(39);
    right(forty + ";", 1);
    right("wish 1 m where a=1 or b.a=2 and(a=3 or not a=4);".repeat(10), 10);
    means("a=0" + " or a=0".repeat(38) + " or a=40", "01001");
    CHECK.sentence("2 (.. a 41st path .. at its first TOKEN");
    fault(forty + " or ^a=0;", 2);
    fault(forty + " or (^a=0);", 2);
    fault(forty + " or not ^a=0;", 2);
    fault(forty + " or ^b.b.b.a=0;", 2);
    fault(forty + " or ^no=0;", 2);
    fault(forty + " or ^b=0;", 2);
    fault(forty + "; wish 1 t where ^s=0;", 2);
    right(forty + "; wish 1 t;", 2);
  }

  private static void pathNames() {
    CHECK.sentence("of 4 NAMES at most");
    right("wish 1 m where a = 1;", 1);
    right("wish 1 m where b.b.b.a = 1;", 1);
    right("wish 1 m where b.t.near.s = 1 and b.b.t.s = 2;", 1);
    CHECK.sentence("2 (.. a fifth NAME at it)");
    fault("wish 1 m where b.b.b.b.^a = 1;", 2);
    fault("wish 1 m where b.b.b.b.^b.a = 1;", 2);
    fault("wish 1 m where b.b.b.b.^no = 1;", 2);
    fault("wish 1 m where b.b.b.b.^?", 1);
    fault("wish 1 m where b.b.b.b.^", 2);
  }

  private static void nesting() {
    CHECK.sentence("an e or a one within 6 others (in ( ), behind not)");
    right("wish 1 m where not not not not not a = 1;", 1);
    right("wish 1 m where (((((a = 1)))));", 1);
    right("wish 1 m where not (not (not a = 1 or a = 2) and a = 3);", 1);
    // Only what stands around it counts, not what stands beside it.
    right("wish 1 m where (((((a=1)))))and(((((a=1)))))or not not not not not a=2;", 1);
    right("wish 1 m where" + " (a = 1) and".repeat(9) + " not a = 1;", 1);
    means("not not not not not a = 30", "01111");
    means("(((((a = 30)))))", "10000");
    CHECK.sentence("2 (.. what is within 6 others: at its first TOKEN");
    fault("wish 1 m where not not not not not not ^a = 1;", 2);
    fault("wish 1 m where not not not not not not ^not a = 1;", 2);
    fault("wish 1 m where ((((((^a = 1))))));", 2);
    fault("wish 1 m where ((((((^(a = 1)))))));", 2);
    fault("wish 1 m where (not (not (not ^a = 1)));", 2);
    fault("wish 1 m where (((((a = 1 and not ^a = 1)))));", 2);
    fault("wish 1 m where (((((a = 1 or (^a = 1))))));", 2);
    fault("wish 1 m where not not not not not not ^;", 2);
    fault("wish 1 m where not not not not not not ^and a = 1;", 2);
    fault("wish 1 m where ((((((^))))));", 2);
    fault("wish 1 m where ((((((^" + "(".repeat(500), 2);
    fault("wish 1 m where not not not not not not ^" + "not ".repeat(100), 2);
  }

  private static void columns() {
    CHECK.sentence("A path's NAMES are columns: the first of the wish's table,"
        + " each next one of the table to which the LINK ahead leads; the last one is no LINK.");
    right("wish 1 m where t.s = 1;", 1);
    right("wish 1 t where near.s = 1;", 1);
    fault("wish 1 t where ^a = 1;", 4);
    fault("wish 1 m where ^s = 1;", 4);
    fault("wish 1 m where t.^a = 1;", 4);
    fault("wish 1 m where t.near.^b = 1;", 4);
    fault("wish 1 m where ^t = 1;", 4);
    fault("wish 1 m where b.^b = -;", 4);
    fault("wish 1 m where b.b.b.^b = 1;", 4);
    // No LINK, and yet another NAME behind it.
    fault("wish 1 m where ^a.a = 1;", 4);
    fault("wish 1 m where b.^a.s = 1;", 4);
    fault("wish 1 m where b.b.b.^a.a = 1;", 4);
  }

  private static void places() {
    CHECK.sentence("FAULTS, the first by its place (bytes from 0; the end: the text's length)");
    fault("^?", 1);
    fault("^m", 2);
    fault("wish ^0 no where no = 1; ?", 6);
    fault("wish 1 ^no where a = 1; wish 0 m;", 4);
    fault("wish 1 m where ^no = 1; ?", 4);
    fault("wish^", 2);
    fault("wish 1 m where a = 1  \n^", 2);
    fault("wish 1 m; wish 1 m ^m; wish 0 m;", 2);
  }

  private static void leastAtOnePlace() {
    CHECK.sentence("at one place the least");
    String forty = "wish 1 m where a=0" + " or a=0".repeat(39);
    // 1 ahead of 2.
    fault(forty + " or ^?", 1);
    fault(forty + " or ^mmmmmmmmm", 1);
    fault("wish 1 m;".repeat(10) + "^?", 1);
    fault("wish 1 m where not not not not not not ^?", 1);
    fault("wish 1 m where b.b.b.b.^mmmmmmmmm", 1);
    // 1 ahead of 4 and 6.
    fault("wish 1 ^noononono;", 1);
    fault("wish ^0000000 m;", 1);
    fault("wish ^17m;", 1);
    // 2 ahead of 4.
    fault(forty + " or ^no.no = 1", 2);
    fault("wish 1 m where not not not not not not ^no = 1", 2);
    fault("wish 1 m where b.b.b.b.^no = 1", 2);
    fault("wish 1 m where b.b.b.b.^b = 1", 2);
  }

  private static void misplaced() {
    CHECK.sentence("2 one that can't stand there");
    dueAt("", "m 7 : , ; # - . < > = ( ) table row to where needs by not and or");
    dueAt("wish ", "m : , ; # - . < > = ( ) wish where");
    dueAt("wish 1 ", "7 : , ; # - . < > = ( ) where");
    dueAt("wish 1 m ", "m 7 : , # - . < > = ( ) wish and not by");
    dueAt("wish 1 m where ", "7 : , ; # - . < > = ) where and");
    dueAt("wish 1 m where b.", "7 : , ; # - . < > = ( ) not");
    dueAt("wish 1 m where a ", "m 7 : , ; # - ( ) and not");
    dueAt("wish 1 m where a = ", "m : , ; # . < > = ( ) not");
    dueAt("wish 1 m where a = 1 ", "m 7 : , # - . < > = ( ) not where");
    dueAt("wish 1 m where (a = 1 ", "m 7 : , ; # - . < > = ( not");
    dueAt("wish 1 m where not ", "7 : , ; # - . < > = ) and");
    dueAt("law ", "7 : , ; # - . < > = ( ) law needs");
    dueAt("law t ", "m 7 : , ; # - . < > = ( ) by");
    dueAt("law t needs ", "m : , ; # - . < > = ( ) by");
    dueAt("law t needs 1 ", "7 : , ; # - . < > = ( ) by");
    dueAt("law t needs 1 m ", "m 7 : , ; # - . < > = ( ) needs");
    dueAt("law t needs 1 m by ", "7 : , ; # - . < > = ( ) by");
    dueAt("law t needs 1 m by t ", "m 7 : , # - . < > = ( ) where and");
  }

  private static void dueAt(String ahead, String tokens) {
    for (String token : tokens.split(" ")) {
      fault(ahead + "^" + token, 2);
    }
    if (!ahead.isEmpty()) {
      fault(ahead + "^", 2);
    }
  }

  private static void notThere() {
    CHECK.sentence("4 a table, or column that there is not");
    fault("wish 1 ^no;", 4);
    fault("wish 1 ^a;", 4);
    fault("law ^no needs 1 m by t;", 4);
    fault("law t needs 1 ^no by t;", 4);
    fault("law t needs 1 m by ^no;", 4);
    fault("wish 1 m where ^no = 1;", 4);
    fault("wish 1 m where b.^no = 1;", 4);
    fault("wish 1 m where ^no.a = 1;", 4);
    TruePiece x = new TruePiece();
    CHECK.due("a wish of no store", Check.wishes(x, "wish 1 m;"), NONE);
    CHECK.due("its fault", x.fault(0), 4);
    CHECK.due("its place", x.fault(1), 7);
    CHECK.sentence("or that is of the other sort (LINK where none may be, none where one must be");
    fault("wish 1 m where ^b = 1;", 4);
    fault("wish 1 m where ^b < 1;", 4);
    fault("wish 1 m where ^b = -;", 4);
    fault("wish 1 m where ^a.a = 1;", 4);
    fault("law m needs 1 m by ^a;", 4);
    CHECK.sentence("a law's last NAME is a LINK of the second table into the first)");
    right("law m needs 1 m by b; law t needs 1 m by t; law t needs 1 t by near;", 3);
    fault("law m needs 1 m by ^t;", 4);
    fault("law t needs 1 m by ^b;", 4);
    fault("law m needs 1 t by ^t;", 4);
    fault("law m needs 1 t by ^near;", 4);
    fault("law t needs 1 m by ^near;", 4);
  }

  private static void pathValues() {
    CHECK.sentence("A path's value of a ROW: that of the last column, of the ROW that is come to");
    means("a = 30", "10000");
    means("b.a = 30", "01000");
    means("b.b.a = 30", "00100");
    means("b.b.b.a = 20", "00010");
    means("t.near.s = 9", "10000");
    means("b.t.near.s = 9", "01000");
    CHECK.sentence("none if a LINK ahead is none");
    means("t.s = -", "00111");
    means("b.a = -", "10001");
    means("b.b.a = -", "11001");
    means("t.near.s = -", "01101");
    means("b.b.b.a = 0", "00000");
  }

  private static void none() {
    CHECK.sentence("none = - holds, none with < > or = N does not; < > with - do not.");
    means("a = -", "00100");
    means("a < 999999", "11011");
    means("a > 0", "11010");
    means("a = 0", "00001");
    means("a < 0", "00000");
    means("a < 1", "00001");
    means("a < -", "00000");
    means("a > -", "00000");
    means("not a < -", "11111");
    means("not a > 0", "00101");
    means("b.a < 999999", "01110");
    means("b.a < -", "00000");
    means("b.a > -", "00000");
    // At the bound itself < and > do not hold.
    means("a < 30", "00011");
    means("a > 30", "01000");
    means("a < 31", "10011");
    means("a > 29", "11000");
  }

  private static void connectives() {
    CHECK.sentence("e = both {or both}.  both = one {and one}.");
    means("a = 30 or a = 40 and a = 20", "10000");
    means("a = 20 and a = 40 or a = 30", "10000");
    means("(a = 30 or a = 40) and a = 40", "01000");
    means("a = 40 and (a = 30 or a = 40)", "01000");
    means("not a = 30 and a > 0", "01010");
    means("not (a = 30 and a > 0)", "01111");
    means("not a = 30 or a = 30", "11111");
    means("not not a = 30", "10000");
    means("a > 1 and a < 45 and a > 25 and a < 35", "10000");
    means("a = 20 or a = 30 or a = 40 or a = -", "11110");
    TruePiece x = Check.with(STORE, "wish 1 t where s = 9 or s = 5 or s = 1 and s = 2;");
    CHECK.due("of row 0", x.holds(0, 0), 1);
    CHECK.due("of row 1", x.holds(0, 1), 1);
    CHECK.due("of row 2", x.holds(0, 2), 0);
  }
}
