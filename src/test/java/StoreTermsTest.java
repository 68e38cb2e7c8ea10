/** Part 1 of the terms, sentence by sentence: what a store may be, and the edges of it. */
public final class StoreTermsTest {
  private static final Check CHECK = new Check();
  private static final int NONE = TruePiece.NONE;
  private static final String[] RESERVED = {
      "table", "row", "to", "wish", "law", "where", "needs", "by", "not", "and", "or"};

  public static void main(String[] args) {
    length();
    grammar();
    words();
    numbers();
    signsAndBlanks();
    longestTokens();
    reservedWords();
    tables();
    columns();
    rows();
    links();
    values();
    places();
    leastAtOnePlace();
    misplaced();
    names();
    noSuchRow();
    CHECK.finish("StoreTermsTest");
  }

  private static void right(String text, int rows) {
    CHECK.storeRight(text, rows);
  }

  private static void fault(String marked, int code) {
    CHECK.storeFault(marked, code);
  }

  private static String blanks(int count) {
    return " ".repeat(count);
  }

  private static void length() {
    CHECK.sentence("A STORE is a text of at most 1,200 bytes");
    String start = "table a: x; row a: 7";
    String most = start + blanks(1200 - start.length() - 1) + ";";
    TruePiece x = new TruePiece();
    CHECK.due("1200 bytes, the last one needed", Check.store(x, most), 1);
    CHECK.due("its value", x.value(0, 0), 7);
    fault(start + blanks(1200 - start.length() - 1) + "^?", 1);
    fault(start + blanks(1200 - start.length()) + "^", 2);
    fault(start.replace("7", blanks(1200 - start.length()) + "7") + "^", 2);
    fault(start + blanks(1200 - start.length() - 1) + "^a", 2);
    Check.type(x, most);
    CHECK.due("no byte comes behind 1200", x.feed(0, 0, 0, 0, 0), NONE);
    CHECK.due("the text is as it was", x.store(), 1);
  }

  private static void grammar() {
    CHECK.sentence("store = {table | row}.");
    right("", 0);
    right(" ", 0);
    right("\n", 0);
    CHECK.due("a tape that nothing was fed", new TruePiece().store(), 0);
    right("table a: x;", 0);
    right("table a: x; row a: 1; table b: y; row a: 2; row b: 3; table c: z;", 3);
    CHECK.sentence("table = table NAME : column {, column} ;.");
    right("table a: x, y;", 0);
    fault("table a:^;", 2);
    fault("table a^;", 2);
    fault("table a: x,^;", 2);
    fault("table a: x^", 2);
    fault("table^", 2);
    CHECK.sentence("column = NAME [to NAME].");
    right("table a: x to a, y;", 0);
    fault("table a: x to^;", 2);
    fault("table a: x to a ^to a;", 2);
    CHECK.sentence("row = row NAME : value {, value} ;.");
    right("table a: x; row a: 1;", 1);
    right("table a: x, y; row a: 1, 2;", 1);
    fault("table a: x; row a:^;", 2);
    fault("table a: x; row a^;", 2);
    fault("table a: x; row a: 1,^;", 2);
    fault("table a: x; row a: 1^", 2);
    fault("table a: x; row^", 2);
    CHECK.sentence("value = N | - | # N.");
    right("table a: x, y, z to a; row a: 1, -, #0;", 1);
    right("table a: x, z to a; row a: -, -;", 1);
    fault("table a: z to a; row a: #^;", 2);
    fault("table a: z to a; row a: #^-;", 2);
    fault("table a: x; row a: -^1;", 2);
  }

  private static void words() {
    CHECK.sentence("words (a .. z, 8 at most)");
    right("table abcdefgh: stuvwxyz; row abcdefgh: 1;", 1);
    right("table abcdefgh: x; table abcdefgi: x; table bbcdefgh: x;", 0);
    fault("table zzzzzzzz: x; table ^zzzzzzzz: x;", 3);
    fault("table ^abcdefghi: x;", 1);
    fault("table a: ^abcdefghi;", 1);
    fault("table a: x to ^aaaaaaaaa;", 1);
    fault("table a: x; row ^aaaaaaaaa: 1;", 1);
    fault("^tabletable a: x;", 1);
    fault("table ^" + "a".repeat(1194), 1);
    for (String end : new String[] {"`", "{", "A", "Z", "@", "["}) {
      fault("table a^" + end, 1);
      fault("table ^" + end, 1);
    }
  }

  private static void numbers() {
    CHECK.sentence("N (1 to 6 digits)");
    String[] told = {"0", "9", "10", "999999", "000000", "000009", "100000"};
    int[] due = {0, 9, 10, 999999, 0, 9, 100000};
    for (int i = 0; i < told.length; i++) {
      TruePiece x = Check.with("table a: x; row a: " + told[i] + ";", "");
      CHECK.due("the value told as " + told[i], x.value(0, 0), due[i]);
    }
    fault("table a: x; row a: ^1234567;", 1);
    fault("table a: x; row a: ^0000001;", 1);
    fault("table a: x to a; row a: #^0000000;", 1);
    fault("table a: x; row a: ^" + "9".repeat(1000), 1);
    fault("table a: x; row a: 1^/;", 1);
    fault("table a: x; row a: ^/;", 1);
    fault("table a: x; row a: 1^:2;", 2);
    fault("table a: x; row a: 1^#2;", 2);
    fault("table a: x; row a: 1^-2;", 2);
    CHECK.sentence("no letter directly behind an N");
    fault("table a: x; row a: ^1a;", 1);
    fault("table a: x; row a: ^1z;", 1);
    fault("table a: x; row a: ^123456a;", 1);
    fault("table a: x; row a: ^1row", 1);
    fault("^1a", 1);
    // What is no letter is not behind it, but a fault of its own.
    fault("table a: x; row a: 1^`;", 1);
    fault("table a: x; row a: 1^{;", 1);
    fault("table a: x; row a: 1^A;", 1);
    // A blank parts them, and an N may stand directly behind a letter.
    fault("table a: x; row a: 1 ^a;", 2);
    fault("table a: x; row a^1;", 2);
    fault("table a^7: x;", 2);
  }

  private static void signsAndBlanks() {
    CHECK.sentence("signs : , ; # - .; blanks (32, 10)");
    for (int c = 0; c < 256; c++) {
      if (c == 32 || c == 10) {
        right("" + (char) c, 0);
        right("table a: x; row a:" + (char) c + "1" + (char) c + ";", 1);
      } else {
        boolean token = c < 128 && Character.toString(c).matches("[-a-z0-9:,;#.]");
        fault("^" + (char) c, token ? 2 : 1);
        fault("table a: x;\n ^" + (char) c + " ", token ? 2 : 1);
      }
    }
    CHECK.sentence("blanks part them or not");
    right("table a:x,y to a,z;row a:1,#0,-;row a:-,-,3;", 2);
    right("  table\n\na : x ,\ny  to a\n,z ; row a:1 , # \n 0 , - ;\n ", 1);
    fault("table a:x,y^", 2);
    // A dot is a token, but no sign that a store has a place for.
    fault("table a: x^.y;", 2);
  }

  private static void longestTokens() {
    CHECK.sentence("each is as long as can be");
    right("table tables: rowrow, tox, xto, noto to tables; row tables: 1, 2, 3, #0;", 1);
    fault("^tablea: x;", 2);
    fault("table a: x ^toa;", 2);
    fault("table a: xto ^a;", 2);
    fault("table a: x; ^rowa: 1;", 2);
    TruePiece x = Check.with("table a: x; row a: 12;", "");
    CHECK.due("one N of two digits", x.value(0, 0), 12);
    fault("table a: x; row a: 1 ^2;", 2);
    fault("table a ^b: x;", 2);
  }

  private static void reservedWords() {
    CHECK.sentence("The words of WISHES and STORES (..) are no NAMES");
    for (String word : RESERVED) {
      fault("table ^" + word + ": x;", 2);
      fault("table a: ^" + word + ";", 2);
      fault("table a: x, ^" + word + ";", 2);
      fault("table a: x to ^" + word + ";", 2);
      fault("table a: x; row ^" + word + ": 1;", 2);
      right("table " + word + "s: x" + word + "; row " + word + "s: 1;", 1);
      right("table " + word.substring(1) + "q: x;", 0);
    }
  }

  private static String tables(int count) {
    StringBuilder text = new StringBuilder();
    for (int i = 0; i < count; i++) {
      text.append("table ").append((char) ('a' + i)).append(": x;");
    }
    return text.toString();
  }

  private static void tables() {
    CHECK.sentence("At most 5 tables");
    TruePiece x = new TruePiece();
    CHECK.due("5 tables", Check.store(x, tables(5) + "row e: 8;"), 1);
    CHECK.due("all are there", x.about(0), 5);
    CHECK.due("the last one has a row", x.row(0, 0), 4);
    CHECK.sentence("2 .. too many of a sort: at table");
    fault(tables(5) + "^table f: x;", 2);
    fault(tables(5) + "row a: 1; row e: 2; ^table f: x;", 2);
    fault(tables(5) + "^table", 2);
    fault(tables(5) + "^table ?", 2);
    fault(tables(5) + "^table a: x;", 2);
  }

  private static void columns() {
    CHECK.sentence("5 columns each");
    String five = ": v, w, x, y, z";
    TruePiece x = new TruePiece();
    CHECK.due("5 columns of two", Check.store(x, "table a" + five + "; table b" + five + " to a;"
        + "row a: 1, 2, 3, 4, 5; row b: 6, 7, 8, 9, #0;"), 2);
    CHECK.due("columns of the first", x.about(10), 5);
    CHECK.due("columns of the second", x.about(11), 5);
    CHECK.due("the fifth value", x.value(0, 4), 5);
    CHECK.due("the fifth value, a link", x.value(1, 4), 0);
    CHECK.sentence("2 .. too many of a sort: at .. the column's NAME");
    fault("table a" + five + ", ^u;", 2);
    fault("table a" + five + ",^u to a;", 2);
    fault("table a" + five + ", ^u to no;", 2);
    fault("table a: x; table b" + five + ", ^u;", 2);
  }

  private static void rows() {
    CHECK.sentence("16 ROWS (numbered as they are told, over all tables; of each table from 0 on, too)");
    String text = "table a: x; table b: x; table c: x;";
    for (int row = 0; row < 16; row++) {
      text += "row " + "aab".charAt(row % 3) + ":" + row + ";";
    }
    TruePiece x = new TruePiece();
    CHECK.due("16 rows", Check.store(x, text), 16);
    int[] told = new int[3];
    for (int row = 0; row < 16; row++) {
      int table = row % 3 / 2;
      CHECK.due("table of " + row, x.row(row, 0), table);
      CHECK.due("number of " + row, x.row(row, 1), told[table]++);
      CHECK.due("value of " + row, x.value(row, 0), row);
    }
    CHECK.due("rows of a", x.about(20), 11);
    CHECK.due("rows of b", x.about(21), 5);
    CHECK.due("rows of c", x.about(22), 0);
    CHECK.sentence("2 .. too many of a sort: at .. row");
    fault(text + "^row c: 1;", 2);
    fault(text + "^row", 2);
    fault(text + "^row ?", 2);
    fault(text + "^row no: 1;", 2);
    fault(text + "table d: x; ^row d: 1;", 2);
    String full = tables(5) + "row a: 1;".repeat(16);
    right(full, 16);
    for (String more : new String[] {"row a: 1;", "table f: x;", "table a: x;", ";", "a"}) {
      fault(full + "^" + more, 2);
    }
    fault(full + "^?", 1);
  }

  private static void links() {
    CHECK.sentence("A column with to is a LINK into that table (told ahead, or this one)");
    TruePiece x = Check.with("table a: v; table b: x to a, y to b; row a: 1; row b: #0, #0;", "");
    CHECK.due("into one told ahead", x.value(1, 0), 0);
    CHECK.due("into this one", x.value(1, 1), 1);
    fault("table a: x to ^b; table b: y;", 4);
    CHECK.sentence("its values are # and the number in that table of a ROW (told or not yet), or - (none)");
    x = Check.with("table a: v; table b: x to a; row b: #1; row a: 1; row b: -; row a: 2; row b: #0;", "");
    CHECK.due("not told yet, the last of its table", x.value(0, 0), 3);
    CHECK.due("none", x.value(2, 0), NONE);
    CHECK.due("told, the first of its table", x.value(4, 0), 1);
    x = Check.with("table a: x to a; row a: #1; row a: #1;", "");
    CHECK.due("the row behind it", x.value(0, 0), 1);
    CHECK.due("itself", x.value(1, 0), 1);
  }

  private static void values() {
    CHECK.sentence("those of others are N or -");
    TruePiece x = Check.with("table a: x; row a: 0; row a: -;", "");
    CHECK.due("0 is no none", x.value(0, 0), 0);
    CHECK.due("none", x.value(1, 0), NONE);
    CHECK.sentence("2 .. a value of the other sort");
    fault("table a: x; row a: ^#0;", 2);
    fault("table a: x to a; row a: ^0;", 2);
    fault("table a: x, y to a; row a: 1, ^1;", 2);
    fault("table a: x to a, y; row a: -, ^#0;", 2);
    CHECK.sentence("A row has as many values as its table columns.");
    right("table a: x; table b: x, y; row b: 1, 2; row a: 1;", 2);
    CHECK.sentence("2 .. a value too many at its first TOKEN");
    fault("table a: x; row a: 1, ^2;", 2);
    fault("table a: x; row a: 1, ^-;", 2);
    fault("table a: x; row a: 1, ^#0;", 2);
    fault("table a: x; row a: 1, ^2, 3;", 2);
    fault("table a: x to a; row a: #0, ^#0;", 2);
    fault("table a: v, w, x, y, z; row a: 1, 2, 3, 4, 5, ^6;", 2);
    CHECK.sentence("2 .. one too few at the ;");
    fault("table a: x, y; row a: 1^;", 2);
    fault("table a: x, y to a; row a: 1 ^;", 2);
    fault("table a: v, w, x, y, z; row a: 1, 2, 3, 4^;", 2);
    fault("table a: v, w, x, y, z; row a: -^;", 2);
  }

  private static void places() {
    CHECK.sentence("FAULTS, the first by its place (bytes from 0; the end: the text's length)");
    fault("^?", 1);
    fault("^; ?", 2);
    fault("^?; ?", 1);
    fault("table a: x; table ^a: y to b; row c: 1; ?", 3);
    fault("table a: x to ^b; table a: y; ?", 4);
    fault("table a: x, ^x; row b: 1;", 3);
    fault("table a: x; row ^b: 1; table a: x;", 4);
    fault("table^", 2);
    fault("table   ^", 2);
    fault("table a: x; row a: 1 \n^", 2);
    fault("table a: x; row a: 1" + blanks(1180) + "^", 2);
  }

  private static void leastAtOnePlace() {
    CHECK.sentence("at one place the least");
    String five = "table a: v, w, x, y, z, ";
    // 1 ahead of 2.
    fault(five + "^?", 1);
    fault(five + "^abcdefghi;", 1);
    fault("table a: x; row a: 1, ^1234567;", 1);
    fault("table a: x; row a: 1, ^7a;", 1);
    fault("table a: x, y; row a: 1 ^?", 1);
    fault(tables(5) + "^tabletable", 1);
    // 2 ahead of 3.
    fault(five + "^v;", 2);
    fault(five + "^z to a;", 2);
    // 2 ahead of 4, which a word that is no NAME is not.
    fault("table a: x to ^to;", 2);
    fault("row ^table: 1;", 2);
  }

  private static void misplaced() {
    CHECK.sentence("2 one that can't stand there");
    String[] first = {"a", "7", ":", ",", ";", "#", "-", ".", "to", "wish", "or"};
    for (String token : first) {
      fault("^" + token, 2);
      fault("table a: x; ^" + token, 2);
      fault("table a: x; row a: 1; ^" + token, 2);
    }
    for (String token : new String[] {"7", ":", ",", ";", "#", "-", ".", "table"}) {
      fault("table ^" + token, 2);
      fault("table a: ^" + token, 2);
      fault("table a: x to ^" + token, 2);
      fault("table a: x; row ^" + token, 2);
    }
    for (String token : new String[] {"7", ",", ";", "b", "-", "."}) {
      fault("table a ^" + token, 2);
      fault("table a: x; row a ^" + token, 2);
    }
    for (String token : new String[] {"7", ":", "#", "b", "-", "."}) {
      fault("table a: x ^" + token, 2);
      fault("table a: x to a ^" + token, 2);
      fault("table a: x; row a: 1 ^" + token, 2);
    }
    for (String token : new String[] {"a", ":", ",", ";", ".", "row"}) {
      fault("table a: x; row a: ^" + token, 2);
      fault("table a: x to a; row a: ^" + token, 2);
      fault("table a: x to a; row a: # ^" + token, 2);
    }
  }

  private static void names() {
    CHECK.sentence("3 a NAME told already (of a table; of a column in its table)");
    fault("table a: x; table ^a: y;", 3);
    fault("table a: x; table b: x; table ^a: y;", 3);
    fault("table a: x; table ^a", 3);
    fault("table a: x, ^x;", 3);
    fault("table a: v, w, x, y, ^v;", 3);
    fault("table a: x to a, ^x;", 3);
    right("table a: a; table b: a, b;", 0);
    CHECK.sentence("4 a NAME of a table that there is not");
    fault("table a: x to ^b;", 4);
    fault("table a: x to ^x;", 4);
    fault("row ^a: 1;", 4);
    fault("table a: x; row ^b: 1; table b: x;", 4);
    fault("table a: x; row ^x: 1;", 4);
    fault("table abcdefgh: x; row ^abcdefg: 1;", 4);
  }

  private static void noSuchRow() {
    CHECK.sentence("and if there is none of these the first by its place: 5 a LINK to a ROW that there is not: at its N");
    fault("table a: x to a; row a: #^1;", 5);
    fault("table a: x to a; row a: #  ^999999;", 5);
    fault("table a: x to a, y to a; row a: #0, #^2; row a: #2, #2;", 5);
    fault("table a: x to a, y to a; row a: #^2, #3;", 5);
    // The number is one in that table, not over all.
    fault("table a: v; table b: x to a; row a: 1; row b: -; row b: #^1;", 5);
    fault("table a: v; table b: x to a; row b: #^0;", 5);
    // Wherever another fault stands, it goes ahead.
    fault("table a: x to a; row a: #9; ^?", 1);
    fault("table a: x to a; row a: #9; row a: #0^", 2);
    fault("table a: x to a; row a: #9; table ^a: x;", 3);
    fault("table a: x to a; row a: #9; row ^b: -;", 4);
    String full = "table a: x to a;" + "row a: #15;".repeat(16);
    right(full, 16);
    fault("table a: x to a;" + "row a: #15;".repeat(15) + "row a: #^16;", 5);
  }
}
