import java.util.Arrays;

/**
 * Cuts the least piece out of a small store of linked tables that holds together, meets all wishes
 * and breaks no law. The numbered promises of the document say what every call answers.
 */
public final class TruePiece {
  public static final int NONE = -1;

  private static final int TOO_LONG = -2;
  private static final int FEED_BYTES = 20;
  private static final int TAPE_BYTES = 1200;
  private static final int WISHES_BYTES = 600;
  private static final int TABLES_MOST = 5;
  private static final int COLUMNS_MOST = 5;
  private static final int ROWS_MOST = 16;
  private static final int WISHES_MOST = 10;
  private static final int NEED_MOST = 16;
  private static final int PATHS_MOST = 40;
  private static final int PATH_NAMES_MOST = 4;
  private static final int WITHIN_REFUSED = 6;
  private static final int KEY_MOST = 9999;
  private static final int TURN = 1048576;

  private static final int NO_TOKEN = 1;
  private static final int MISPLACED = 2;
  private static final int TOLD_ALREADY = 3;
  private static final int NOT_THERE = 4;
  private static final int NO_SUCH_ROW = 5;
  private static final int BAD_NUMBER = 6;

  private static final int BY_WISH = 1;
  private static final int BY_LINK = 2;
  private static final int BY_LAW = 3;

  private final Tape tape;
  private final int[] keys;
  private final int[] line;
  private Store stock;
  private Store spareStock;
  private Demands demands;
  private Demands spareDemands;
  private int goneRows;
  private int keptRows;
  private boolean leastKnown;
  private int leastRows;
  private int placed;
  private boolean steadyKnown;
  private int steadyRows;

  public TruePiece() {
    tape = new Tape();
    keys = new int[TABLES_MOST * COLUMNS_MOST];
    line = new int[ROWS_MOST];
    stock = new Store();
    spareStock = new Store();
    demands = new Demands();
    spareDemands = new Demands();
    Arrays.fill(keys, NONE);
  }

  public int feed(int a, int b, int c, int d, int e) {
    if (tape.length + FEED_BYTES > TAPE_BYTES) {
      return NONE;
    }
    tape.append(a);
    tape.append(b);
    tape.append(c);
    tape.append(d);
    tape.append(e);
    return tape.length;
  }

  public int end(int n) {
    if (n < 0 || n > tape.length) {
      return NONE;
    }
    tape.length = n;
    return n;
  }

  public int store() {
    boolean faultless = new StoreReader(tape, spareStock).readAll();
    tape.length = 0;
    if (!faultless) {
      return NONE;
    }
    Store former = stock;
    stock = spareStock;
    spareStock = former;
    demands.clear();
    goneRows = 0;
    keptRows = 0;
    Arrays.fill(keys, NONE);
    forgetPieces();
    return stock.rows;
  }

  public int wishes() {
    if (tape.length > WISHES_BYTES) {
      return TOO_LONG;
    }
    boolean faultless = new WishReader(tape, stock, spareDemands).readAll();
    tape.length = 0;
    if (!faultless) {
      return NONE;
    }
    Demands former = demands;
    demands = spareDemands;
    spareDemands = former;
    demands.lose(goneRows);
    forgetPieces();
    return demands.count;
  }

  public int fault(int what) {
    if (what == 0) {
      return tape.fault;
    }
    return what == 1 ? tape.faultPlace : NONE;
  }

  public int row(int row, int what) {
    if (!stock.hasRow(row)) {
      return NONE;
    }
    switch (what) {
      case 0:
        return stock.rowTable[row];
      case 1:
        return stock.rowNumber[row];
      case 2:
        return has(goneRows, row) ? 1 : 0;
      default:
        return NONE;
    }
  }

  public int value(int row, int column) {
    return stock.cell(row, column);
  }

  public int holds(int wish, int row) {
    if (!demands.isWish(wish) || !stock.hasRow(row)) {
      return NONE;
    }
    if (stock.rowTable[row] != demands.tables[wish]) {
      return NONE;
    }
    return has(demands.fitting[wish], row) ? 1 : 0;
  }

  public boolean gone(int row) {
    if (!stock.hasRow(row) || has(goneRows, row) || stock.isLinkedFrom(~goneRows, row)) {
      return false;
    }
    goneRows |= 1 << row;
    demands.lose(goneRows);
    forgetPieces();
    return true;
  }

  public int least() {
    if (!leastKnown) {
      leastRows = new Cutter(stock, demands, goneRows, 0).cut();
      leastKnown = true;
      placed = leastRows == NONE ? 0 : stock.lineUp(leastRows, line);
    }
    return leastRows;
  }

  public boolean keep() {
    int rows = least();
    if (rows == NONE) {
      return false;
    }
    keptRows = rows;
    steadyKnown = false;
    return true;
  }

  public int steady() {
    if (!steadyKnown) {
      steadyRows = new Cutter(stock, demands, goneRows, keptRows).cut();
      steadyKnown = true;
    }
    return steadyRows;
  }

  public int piece(int rows) {
    if ((rows & ~stock.allRows()) != 0) {
      return NONE;
    }
    return new Cutter(stock, demands, goneRows, 0).isPiece(rows) ? 1 : 0;
  }

  public int why(int row) {
    int rows = least();
    if (rows == NONE || !stock.hasRow(row)) {
      return NONE;
    }
    if (!has(rows, row)) {
      return 0;
    }
    int others = rows & ~(1 << row);
    if (!demands.wishesMetBy(others)) {
      return BY_WISH;
    }
    return stock.isLinkedFrom(others, row) ? BY_LINK : BY_LAW;
  }

  public int order(int k) {
    if (least() == NONE || k < 0 || k >= placed || k >= line.length) {
      return NONE;
    }
    return line[k];
  }

  public int rings() {
    int rows = least();
    return rows == NONE ? NONE : Integer.bitCount(rows) - placed;
  }

  public boolean hide(int table, int column, int key) {
    if (!stock.isPlainColumn(table, column) || key < NONE || key > KEY_MOST) {
      return false;
    }
    keys[slot(table, column)] = key;
    return true;
  }

  public int shown(int row, int column) {
    int plain = stock.cell(row, column);
    if (plain == NONE || !stock.hasRow(row)) {
      return NONE;
    }
    int key = keys[slot(stock.rowTable[row], column)];
    return key == NONE ? plain : turned(plain, key);
  }

  public int weight(int table, int column, boolean denominator) {
    int rows = least();
    if (rows == NONE || !stock.isPlainColumn(table, column)) {
      return NONE;
    }
    int whole = stock.total(table, column, ~goneRows);
    int part = stock.total(table, column, rows);
    int divisor = commonDivisor(whole, part);
    if (part == 0 || divisor == 0) {
      return NONE;
    }
    return denominator ? part / divisor : whole / divisor;
  }

  public int about(int what) {
    switch (what) {
      case 0:
        return stock.tables;
      case 1:
        return stock.rows;
      case 2:
        return demands.count;
      case 3:
        return Integer.bitCount(goneRows);
      case 4:
        return keptRows;
      case 5:
        return tape.length;
      default:
        return aboutTable(what);
    }
  }

  private int aboutTable(int what) {
    if (what >= 10 && stock.hasTable(what - 10)) {
      return stock.columns[what - 10];
    }
    if (what >= 20 && stock.hasTable(what - 20)) {
      return stock.tableRows[what - 20];
    }
    return NONE;
  }

  private void forgetPieces() {
    leastKnown = false;
    steadyKnown = false;
  }

  private static boolean has(int rows, int row) {
    return (rows >> row & 1) != 0;
  }

  private static int slot(int table, int column) {
    return table * COLUMNS_MOST + column;
  }

  private static int turned(int plain, int key) {
    // The product outgrows an int: six digits by five.
    return (int) (((long) plain * (2 * key + 1) + key) % TURN);
  }

  private static int commonDivisor(int a, int b) {
    int larger = a;
    int smaller = b;
    for (int step = 0; step < 64 && smaller != 0; step++) {
      int left = larger % smaller;
      larger = smaller;
      smaller = left;
    }
    return larger;
  }

  /** The bytes that were fed, the TOKENS they make, and the FAULT of the latest reading. */
  private static final class Tape {
    static final int END = 0;
    static final int BROKEN = 1;
    static final int NAME = 2;
    static final int NUMBER = 3;
    static final int TABLE = 4;
    static final int ROW = 5;
    static final int TO = 6;
    static final int WISH = 7;
    static final int LAW = 8;
    static final int WHERE = 9;
    static final int NEEDS = 10;
    static final int BY = 11;
    static final int NOT = 12;
    static final int AND = 13;
    static final int OR = 14;

    // In the order of the kinds TABLE to OR, each word closed by a blank.
    private static final String RESERVED = "table row to wish law where needs by not and or ";
    private static final int RESERVED_COUNT = 11;
    private static final String STORE_SIGNS = ":,;#-.";
    private static final String WISH_SIGNS = ":,;#-.<>=()";
    private static final int WORD_MOST = 8;
    private static final int DIGITS_MOST = 6;

    final byte[] bytes;
    final long[] reserved;
    int length;
    String signs;
    int next;
    /** The TOKEN at hand: one of the kinds above, or a sign's own character. */
    int kind;
    int start;
    int number;
    long word;
    int fault;
    int faultPlace;

    Tape() {
      bytes = new byte[TAPE_BYTES];
      reserved = new long[RESERVED_COUNT];
      signs = STORE_SIGNS;
      faultPlace = NONE;
      int filled = 0;
      for (int i = 0; i < RESERVED.length() && filled < RESERVED_COUNT; i++) {
        char c = RESERVED.charAt(i);
        if (c == ' ') {
          filled++;
        } else {
          reserved[filled] = reserved[filled] * 32 + (c - 'a' + 1);
        }
      }
    }

    void append(int four) {
      for (int shift = 24; shift >= 0 && length < bytes.length; shift -= 8) {
        bytes[length] = (byte) (four >> shift);
        length++;
      }
    }

    void open(boolean asWishes) {
      signs = asWishes ? WISH_SIGNS : STORE_SIGNS;
      fault = 0;
      faultPlace = NONE;
      next = 0;
      advance();
    }

    void advance() {
      while (next < length && (bytes[next] == ' ' || bytes[next] == '\n')) {
        next++;
      }
      start = next;
      int c = next < length ? bytes[next] & 255 : NONE;
      if (c == NONE) {
        kind = END;
      } else if (c >= 'a' && c <= 'z') {
        readWord();
      } else if (c >= '0' && c <= '9') {
        readNumber();
      } else {
        kind = signs.indexOf((char) c) >= 0 ? c : BROKEN;
        next++;
      }
    }

    /** The first FAULT told is the first by its place: reading goes on only without one. */
    void refuse(int code, int place) {
      if (fault == 0) {
        fault = code;
        faultPlace = place;
      }
    }

    void refuseToken() {
      refuse(kind == BROKEN ? NO_TOKEN : MISPLACED, start);
    }

    boolean take(int wanted) {
      if (fault != 0) {
        return false;
      }
      if (kind != wanted) {
        refuseToken();
        return false;
      }
      advance();
      return true;
    }

    int takeTable(Store store) {
      if (kind != NAME) {
        refuseToken();
      }
      int table = store.tableNamed(word);
      if (table == NONE) {
        refuse(NOT_THERE, start);
      }
      if (fault != 0) {
        return NONE;
      }
      advance();
      return table;
    }

    private void readWord() {
      word = 0;
      while (next < length && bytes[next] >= 'a' && bytes[next] <= 'z') {
        word = word * 32 + (bytes[next] - 'a' + 1);
        next++;
      }
      kind = next - start > WORD_MOST ? BROKEN : NAME;
      for (int i = 0; i < reserved.length; i++) {
        if (kind == NAME && reserved[i] == word) {
          kind = TABLE + i;
        }
      }
    }

    private void readNumber() {
      number = 0;
      while (next < length && bytes[next] >= '0' && bytes[next] <= '9') {
        number = number * 10 + (bytes[next] - '0');
        next++;
      }
      boolean letterBehind = next < length && bytes[next] >= 'a' && bytes[next] <= 'z';
      kind = next - start > DIGITS_MOST || letterBehind ? BROKEN : NUMBER;
    }
  }

  /** Tables and ROWS. A set of ROWS is an int: bit r stands for ROW r. */
  private static final class Store {
    int tables;
    final long[] tableNames;
    final int[] columns;
    final int[] tableRows;
    final long[] columnNames;
    /** Of each column the table into which it links, or NONE. */
    final int[] targets;
    int rows;
    final int[] rowTable;
    final int[] rowNumber;
    final int[] cells;
    /** Where on the TAPE each value's N stood. */
    final int[] places;
    /** Of each ROW those to which it links. */
    final int[] links;

    Store() {
      tableNames = new long[TABLES_MOST];
      columns = new int[TABLES_MOST];
      tableRows = new int[TABLES_MOST];
      columnNames = new long[TABLES_MOST * COLUMNS_MOST];
      targets = new int[TABLES_MOST * COLUMNS_MOST];
      rowTable = new int[ROWS_MOST];
      rowNumber = new int[ROWS_MOST];
      cells = new int[ROWS_MOST * COLUMNS_MOST];
      places = new int[ROWS_MOST * COLUMNS_MOST];
      links = new int[ROWS_MOST];
    }

    void clear() {
      tables = 0;
      rows = 0;
      Arrays.fill(cells, NONE);
    }

    boolean hasTable(int table) {
      return table >= 0 && table < tables;
    }

    boolean hasColumn(int table, int column) {
      return table >= 0 && table < tables && column >= 0 && column < columns[table];
    }

    boolean isPlainColumn(int table, int column) {
      return hasColumn(table, column) && targets[slot(table, column)] == NONE;
    }

    boolean hasRow(int row) {
      return row >= 0 && row < rows;
    }

    int allRows() {
      return (1 << rows) - 1;
    }

    int target(int table, int column) {
      return hasColumn(table, column) ? targets[slot(table, column)] : NONE;
    }

    /** A column that the ROW's table has not holds none. */
    int cell(int row, int column) {
      if (row < 0 || row >= rows || column < 0 || column >= COLUMNS_MOST) {
        return NONE;
      }
      return cells[row * COLUMNS_MOST + column];
    }

    int tableNamed(long name) {
      for (int table = 0; table < tables; table++) {
        if (tableNames[table] == name) {
          return table;
        }
      }
      return NONE;
    }

    int columnNamed(int table, long name) {
      for (int column = 0; column < COLUMNS_MOST && hasColumn(table, column); column++) {
        if (columnNames[slot(table, column)] == name) {
          return column;
        }
      }
      return NONE;
    }

    int rowsOf(int table) {
      int found = 0;
      for (int row = 0; row < rows; row++) {
        if (rowTable[row] == table) {
          found |= 1 << row;
        }
      }
      return found;
    }

    int rowOf(int table, int number) {
      for (int row = 0; row < rows; row++) {
        if (rowTable[row] == table && rowNumber[row] == number) {
          return row;
        }
      }
      return NONE;
    }

    /** The ROWS of a table that link to a ROW by a column. */
    int linkersOf(int row, int table, int column) {
      int found = 0;
      for (int other = 0; other < rows; other++) {
        if (rowTable[other] == table && cell(other, column) == row) {
          found |= 1 << other;
        }
      }
      return found;
    }

    boolean isLinkedFrom(int others, int row) {
      for (int other = 0; other < rows; other++) {
        if (has(others, other) && has(links[other], row)) {
          return true;
        }
      }
      return false;
    }

    int total(int table, int column, int among) {
      int sum = 0;
      for (int row = 0; row < rows; row++) {
        if (rowTable[row] == table && has(among, row)) {
          sum += Math.max(0, cell(row, column));
        }
      }
      return sum;
    }

    /** Puts ROWS that hold together into their ORDER, and tells how many have a place. */
    int lineUp(int among, int[] line) {
      int left = among;
      for (int place = 0; place < line.length; place++) {
        int next = firstFree(left);
        if (next == NONE) {
          return place;
        }
        line[place] = next;
        left &= ~(1 << next);
      }
      return line.length;
    }

    private int firstFree(int left) {
      for (int row = 0; row < rows; row++) {
        if (has(left, row) && (links[row] & left & ~(1 << row)) == 0) {
          return row;
        }
      }
      return NONE;
    }

    void findLinks() {
      for (int row = 0; row < rows; row++) {
        links[row] = 0;
        for (int column = 0; column < COLUMNS_MOST; column++) {
          if (target(rowTable[row], column) != NONE && hasRow(cell(row, column))) {
            links[row] |= 1 << cell(row, column);
          }
        }
      }
    }
  }

  /** Reads the TAPE as a STORE. */
  private static final class StoreReader {
    private final Tape tape;
    private final Store store;

    StoreReader(Tape tape, Store store) {
      this.tape = tape;
      this.store = store;
    }

    boolean readAll() {
      store.clear();
      tape.open(false);
      // One part more than can stand: reading it is what finds the FAULT.
      int most = TABLES_MOST + ROWS_MOST + 1;
      for (int part = 0; part < most && tape.fault == 0 && tape.kind != Tape.END; part++) {
        if (tape.kind == Tape.TABLE && store.tables < TABLES_MOST) {
          readTable(store.tables);
        } else if (tape.kind == Tape.ROW && store.rows < ROWS_MOST) {
          readRow(store.rows);
        } else {
          tape.refuseToken();
        }
      }
      if (tape.fault == 0) {
        joinLinks();
      }
      if (tape.fault == 0) {
        store.findLinks();
      }
      return tape.fault == 0;
    }

    private void readTable(int table) {
      tape.advance();
      if (tape.kind == Tape.NAME && store.tableNamed(tape.word) != NONE) {
        tape.refuse(TOLD_ALREADY, tape.start);
      }
      long name = tape.word;
      if (!tape.take(Tape.NAME) || !tape.take(':')) {
        return;
      }
      // It counts at once, for its own columns may link into it.
      store.tableNames[table] = name;
      store.columns[table] = 0;
      store.tableRows[table] = 0;
      store.tables++;
      boolean more = true;
      for (int column = 0; column <= COLUMNS_MOST && more; column++) {
        readColumn(table);
        more = tape.fault == 0 && tape.kind == ',';
        if (more) {
          tape.advance();
        }
      }
      tape.take(';');
    }

    private void readColumn(int table) {
      int column = store.columns[table];
      if (tape.kind != Tape.NAME || column >= COLUMNS_MOST) {
        tape.refuseToken();
        return;
      }
      if (store.columnNamed(table, tape.word) != NONE) {
        tape.refuse(TOLD_ALREADY, tape.start);
        return;
      }
      store.columnNames[slot(table, column)] = tape.word;
      store.targets[slot(table, column)] = NONE;
      store.columns[table]++;
      tape.advance();
      if (tape.kind == Tape.TO) {
        tape.advance();
        store.targets[slot(table, column)] = tape.takeTable(store);
      }
    }

    private void readRow(int row) {
      tape.advance();
      int table = tape.takeTable(store);
      if (!tape.take(':') || !store.hasTable(table)) {
        return;
      }
      store.rowTable[row] = table;
      store.rowNumber[row] = store.tableRows[table];
      boolean more = true;
      int told = 0;
      while (more && told <= COLUMNS_MOST) {
        readValue(row, told);
        told++;
        more = tape.fault == 0 && tape.kind == ',';
        if (more) {
          tape.advance();
        }
      }
      if (tape.fault == 0 && told < store.columns[table]) {
        tape.refuseToken();
      }
      if (tape.take(';')) {
        store.tableRows[table]++;
        store.rows++;
      }
    }

    private void readValue(int row, int column) {
      int table = store.rowTable[row];
      if (!store.hasColumn(table, column)) {
        tape.refuseToken();
        return;
      }
      if (tape.kind == '-') {
        tape.advance();
        return;
      }
      if (store.target(table, column) != NONE && !tape.take('#')) {
        return;
      }
      int number = tape.number;
      store.places[slot(row, column)] = tape.start;
      if (tape.take(Tape.NUMBER)) {
        store.cells[slot(row, column)] = number;
      }
    }

    /** Only behind the last ROW is it known which ROWS there are. */
    private void joinLinks() {
      for (int row = 0; row < store.rows; row++) {
        int table = store.rowTable[row];
        for (int column = 0; column < COLUMNS_MOST; column++) {
          int target = store.target(table, column);
          int number = store.cell(row, column);
          if (target != NONE && number != NONE) {
            joinLink(row, column, store.rowOf(target, number));
          }
        }
      }
    }

    private void joinLink(int row, int column, int linked) {
      if (linked == NONE) {
        tape.refuse(NO_SUCH_ROW, store.places[slot(row, column)]);
      } else {
        store.cells[slot(row, column)] = linked;
      }
    }
  }

  /**
   * WISHES and laws, and the bonds that they make: each asks for some of its helpers. A wish makes
   * one bond that always binds, a law one for each ROW of its first table, binding if that is in.
   */
  private static final class Demands {
    int count;
    final boolean[] laws;
    final int[] tables;
    /** Of each wish the ROWS for which it holds. */
    final int[] fitting;
    int bonds;
    /** Of each bond the ROW, as a bit, for which it binds; 0, always: a wish's. */
    final int[] owners;
    final int[] needs;
    final int[] helpers;

    Demands() {
      laws = new boolean[WISHES_MOST];
      tables = new int[WISHES_MOST];
      fitting = new int[WISHES_MOST];
      owners = new int[WISHES_MOST * ROWS_MOST];
      needs = new int[WISHES_MOST * ROWS_MOST];
      helpers = new int[WISHES_MOST * ROWS_MOST];
    }

    void clear() {
      count = 0;
      bonds = 0;
    }

    boolean isWish(int index) {
      return index >= 0 && index < count && !laws[index];
    }

    void addWish(int table, int need, int rows) {
      addDemand(false, table, rows);
      addBond(0, need, rows);
    }

    void addLaw(Store store, int table, int need, int linkTable, int column) {
      addDemand(true, table, 0);
      for (int row = 0; row < store.rows; row++) {
        if (store.rowTable[row] == table) {
          addBond(1 << row, need, store.linkersOf(row, linkTable, column));
        }
      }
    }

    boolean wishesMetBy(int rows) {
      for (int bond = 0; bond < bonds; bond++) {
        if (owners[bond] == 0 && Integer.bitCount(helpers[bond] & rows) < needs[bond]) {
          return false;
        }
      }
      return true;
    }

    boolean binds(int bond, int rows) {
      return owners[bond] == 0 || (owners[bond] & rows) != 0;
    }

    /** A law is content with all helpers that are left; a wish is not. */
    void lose(int gone) {
      for (int bond = 0; bond < bonds; bond++) {
        helpers[bond] &= ~gone;
        if (owners[bond] != 0) {
          needs[bond] = Math.min(needs[bond], Integer.bitCount(helpers[bond]));
        }
      }
    }

    private void addDemand(boolean law, int table, int rows) {
      if (count < WISHES_MOST) {
        laws[count] = law;
        tables[count] = table;
        fitting[count] = rows;
        count++;
      }
    }

    private void addBond(int owner, int need, int rows) {
      if (bonds < owners.length) {
        owners[bonds] = owner;
        needs[bonds] = need;
        helpers[bonds] = rows;
        bonds++;
      }
    }
  }

  /** Reads the TAPE as WISHES. */
  private static final class WishReader {
    private final Tape tape;
    private final Store store;
    private final Demands demands;
    private final int[] path;
    private int pathNames;
    private int paths;
    private int table;

    WishReader(Tape tape, Store store, Demands demands) {
      this.tape = tape;
      this.store = store;
      this.demands = demands;
      path = new int[PATH_NAMES_MOST];
    }

    boolean readAll() {
      demands.clear();
      tape.open(true);
      for (int i = 0; i <= WISHES_MOST && tape.fault == 0 && tape.kind != Tape.END; i++) {
        if (tape.kind == Tape.WISH && i < WISHES_MOST) {
          readWish();
        } else if (tape.kind == Tape.LAW && i < WISHES_MOST) {
          readLaw();
        } else {
          tape.refuseToken();
        }
      }
      return tape.fault == 0;
    }

    private void readWish() {
      tape.advance();
      int need = readNeed();
      table = tape.takeTable(store);
      if (tape.fault != 0) {
        return;
      }
      int rows = store.rowsOf(table);
      if (tape.kind == Tape.WHERE) {
        tape.advance();
        rows &= readEither(0);
      }
      if (tape.take(';')) {
        demands.addWish(table, need, rows);
      }
    }

    private void readLaw() {
      tape.advance();
      int first = tape.takeTable(store);
      tape.take(Tape.NEEDS);
      int need = readNeed();
      int second = tape.takeTable(store);
      tape.take(Tape.BY);
      int column = store.columnNamed(second, tape.word);
      if (tape.kind == Tape.NAME && (column == NONE || store.target(second, column) != first)) {
        tape.refuse(NOT_THERE, tape.start);
      }
      if (tape.take(Tape.NAME) && tape.take(';')) {
        demands.addLaw(store, first, need, second, column);
      }
    }

    private int readNeed() {
      int need = tape.number;
      if (tape.kind == Tape.NUMBER && (need < 1 || need > NEED_MOST)) {
        tape.refuse(BAD_NUMBER, tape.start);
      }
      return tape.take(Tape.NUMBER) ? need : 0;
    }

    /** An e: "and" binds more tightly than "or". Answers the ROWS for which it holds. */
    private int readEither(int within) {
      int any = 0;
      int all = ~0;
      for (int part = 0; part <= WISHES_BYTES && tape.fault == 0; part++) {
        all &= readOne(within);
        boolean and = tape.kind == Tape.AND;
        if (!and) {
          any |= all;
          all = ~0;
        }
        if (!and && tape.kind != Tape.OR) {
          return any;
        }
        tape.advance();
      }
      return any;
    }

    private int readOne(int within) {
      if (tape.fault != 0) {
        return 0;
      }
      if (within >= WITHIN_REFUSED) {
        tape.refuseToken();
        return 0;
      }
      if (tape.kind == Tape.NOT) {
        tape.advance();
        return ~readOne(within + 1);
      }
      if (tape.kind == '(') {
        tape.advance();
        int rows = readEither(within + 1);
        tape.take(')');
        return rows;
      }
      readPath();
      return readComparison();
    }

    /** A path's NAMES lead from column to column; only the last one is no LINK. */
    private void readPath() {
      if (paths >= PATHS_MOST) {
        tape.refuseToken();
      }
      paths++;
      pathNames = 0;
      int from = table;
      while (tape.fault == 0 && pathNames < PATH_NAMES_MOST && tape.kind == Tape.NAME) {
        int place = tape.start;
        int column = store.columnNamed(from, tape.word);
        path[pathNames] = column;
        pathNames++;
        from = store.target(from, column);
        tape.advance();
        if (column == NONE || (from != NONE) != (tape.kind == '.')) {
          tape.refuse(NOT_THERE, place);
        }
        if (from == NONE) {
          return;
        }
        tape.advance();
      }
      // Another NAME is due, and there is none, or one too many.
      tape.refuseToken();
    }

    private int readComparison() {
      int sign = tape.kind;
      if (sign != '<' && sign != '>' && sign != '=') {
        tape.refuseToken();
      }
      if (tape.fault != 0) {
        return 0;
      }
      tape.advance();
      int bound = tape.kind == Tape.NUMBER ? tape.number : NONE;
      if (tape.kind != Tape.NUMBER && tape.kind != '-') {
        tape.refuseToken();
        return 0;
      }
      tape.advance();
      int rows = 0;
      for (int row = 0; row < store.rows; row++) {
        if (store.rowTable[row] == table && compares(valueAlong(row), sign, bound)) {
          rows |= 1 << row;
        }
      }
      return rows;
    }

    private int valueAlong(int row) {
      int reached = row;
      for (int i = 0; i < pathNames && i < path.length; i++) {
        reached = store.cell(reached, path[i]);
      }
      return reached;
    }

    private static boolean compares(int value, int sign, int bound) {
      if (value == NONE || bound == NONE) {
        return sign == '=' && value == bound;
      }
      if (sign == '=') {
        return value == bound;
      }
      return sign == '<' ? value < bound : value > bound;
    }
  }

  /** Looks for the PIECE that differs least from the ROWS kept; of none kept that is LEAST. */
  private static final class Cutter {
    private final Store store;
    private final Demands demands;
    private final int gone;
    private final int kept;
    private int changesMost;
    private int rowsMost;

    Cutter(Store store, Demands demands, int gone, int kept) {
      this.store = store;
      this.demands = demands;
      this.gone = gone;
      this.kept = kept & ~gone;
    }

    boolean isPiece(int rows) {
      if ((rows & gone) != 0) {
        return false;
      }
      for (int row = 0; row < store.rows; row++) {
        if (has(rows, row) && (store.links[row] & ~rows) != 0) {
          return false;
        }
      }
      for (int bond = 0; bond < demands.bonds; bond++) {
        int helping = Integer.bitCount(demands.helpers[bond] & rows);
        if (demands.binds(bond, rows) && helping < demands.needs[bond]) {
          return false;
        }
      }
      return true;
    }

    int cut() {
      // All ROWS that are left break no law and no link: if they are no PIECE, nothing is.
      if (!isPiece(store.allRows() & ~gone)) {
        return NONE;
      }
      int found = NONE;
      rowsMost = store.rows;
      for (int changes = 0; changes <= store.rows && found == NONE; changes++) {
        changesMost = changes;
        found = search(0, 0, gone);
      }
      // With nothing kept each ROW is a change: fewest changes are fewest ROWS.
      int most = kept == 0 ? NONE : Integer.bitCount(found) - 1;
      int fewer = NONE;
      for (int rows = 0; rows <= most && fewer == NONE; rows++) {
        rowsMost = rows;
        fewer = search(0, 0, gone);
      }
      return fewer == NONE ? found : fewer;
    }

    /**
     * The first PIECE within both limits that has all of some ROWS and none of others. A ROW is
     * tried in before it is tried out, so that the first one found has the least numbers.
     */
    private int search(int from, int some, int out) {
      int in = settled(some, out);
      if (in == NONE || !isWithinLimits(in, out)) {
        return NONE;
      }
      int row = from;
      while (row < store.rows && has(in | out, row)) {
        row++;
      }
      if (row >= store.rows) {
        return in;
      }
      int found = search(row + 1, in | 1 << row, out);
      return found != NONE ? found : search(row + 1, in, out | 1 << row);
    }

    /** Some ROWS with all that they can't do without; NONE if one of these is out. */
    private int settled(int some, int out) {
      int in = some;
      // Each pass but the last brings one ROW at least.
      for (int pass = 0; pass <= ROWS_MOST; pass++) {
        int before = in;
        for (int row = 0; row < store.rows; row++) {
          in |= has(in, row) ? store.links[row] : 0;
        }
        in = withLastHelpers(in, out);
        if (in == NONE || (in & out) != 0) {
          return NONE;
        }
        if (in == before) {
          return in;
        }
      }
      return NONE;
    }

    /** A bond that has no more helpers than it asks for takes all of them; NONE if it has fewer. */
    private int withLastHelpers(int some, int out) {
      int in = some;
      for (int bond = 0; bond < demands.bonds; bond++) {
        int open = demands.helpers[bond] & ~out;
        int excess = Integer.bitCount(open) - demands.needs[bond];
        if (excess <= 0 && demands.binds(bond, in)) {
          if (excess < 0) {
            return NONE;
          }
          in |= open;
        }
      }
      return in;
    }

    private boolean isWithinLimits(int in, int out) {
      int changes = Integer.bitCount(in & ~kept) + Integer.bitCount(kept & out);
      return Integer.bitCount(in) + lacking(in, out, in) <= rowsMost
          && changes + lacking(in, out, in | kept) <= changesMost;
    }

    /** How many ROWS at least must come to those at hand so that all bonds of those in hold. */
    private int lacking(int in, int out, int atHand) {
      int most = 0;
      int sum = 0;
      int summed = 0;
      for (int bond = 0; bond < demands.bonds; bond++) {
        int open = demands.helpers[bond] & ~out;
        int lack = demands.needs[bond] - Integer.bitCount(open & atHand);
        if (lack > 0 && demands.binds(bond, in)) {
          most = Math.max(most, lack);
          // Bonds that share no helper can't be helped by one ROW.
          if ((open & ~atHand & summed) == 0) {
            sum += lack;
            summed |= open & ~atHand;
          }
        }
      }
      return Math.max(most, sum);
    }
  }
}
