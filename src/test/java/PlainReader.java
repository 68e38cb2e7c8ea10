import java.util.ArrayList;
import java.util.List;
import java.util.regex.Matcher;
import java.util.regex.Pattern;

/** A second reader of both texts, written apart from the class: which fault is due, and where. */
final class PlainReader {
  private static final Pattern STORE_TOKEN = Pattern.compile("[a-z]+|[0-9]+[a-z]?|[-:,;#.]");
  private static final Pattern WISH_TOKEN = Pattern.compile("[a-z]+|[0-9]+[a-z]?|[-:,;#.<>=()]");
  private static final List<String> RESERVED = List.of(
      "table", "row", "to", "wish", "law", "where", "needs", "by", "not", "and", "or");

  /** Stops the reading at a fault. */
  private static final class Fault extends RuntimeException {
    private static final long serialVersionUID = 1;
    final int code;
    final int place;

    Fault(int code, int place) {
      super(null, null, false, false);
      this.code = code;
      this.place = place;
    }
  }

  private static final class Table {
    String name;
    final List<String> columns = new ArrayList<>();
    final List<Table> targets = new ArrayList<>();
    int rows;
  }

  private final List<Table> tables = new ArrayList<>();
  private final List<String> tokens = new ArrayList<>();
  private final List<Integer> places = new ArrayList<>();
  private int at;
  private int paths;
  private int rows;
  int code;
  int place;

  /** The count that is due, or NONE. */
  int store(String text) {
    tables.clear();
    rows = 0;
    part(text, STORE_TOKEN);
    try {
      List<Object[]> links = new ArrayList<>();
      while (!is("")) {
        if (is("table") && tables.size() < 5) {
          table();
        } else if (is("row") && rows < 16) {
          row(links);
        } else {
          throw unfit();
        }
      }
      for (Object[] link : links) {
        if ((Integer) link[1] >= ((Table) link[0]).rows) {
          throw new Fault(5, (Integer) link[2]);
        }
      }
    } catch (Fault fault) {
      return fail(fault);
    }
    return pass(rows);
  }

  /** For the tables of the latest store without a fault. */
  int wishes(String text) {
    part(text, WISH_TOKEN);
    paths = 0;
    int count = 0;
    try {
      while (!is("")) {
        if (count == 10 || !is("wish") && !is("law")) {
          throw unfit();
        }
        count++;
        if (is("law")) {
          law();
        } else {
          wish();
        }
      }
    } catch (Fault fault) {
      return fail(fault);
    }
    return pass(count);
  }

  private int fail(Fault fault) {
    code = fault.code;
    place = fault.place;
    return TruePiece.NONE;
  }

  private int pass(int count) {
    code = 0;
    place = TruePiece.NONE;
    return count;
  }

  private void part(String text, Pattern token) {
    tokens.clear();
    places.clear();
    at = 0;
    Matcher matcher = token.matcher(text);
    int next = 0;
    while (next < text.length()) {
      if (text.charAt(next) == ' ' || text.charAt(next) == '\n') {
        next++;
        continue;
      }
      matcher.region(next, text.length());
      places.add(next);
      if (!matcher.lookingAt() || !isToken(matcher.group())) {
        tokens.add("?");
        return;
      }
      tokens.add(matcher.group());
      next = matcher.end();
    }
    tokens.add("");
    places.add(text.length());
  }

  private static boolean isToken(String found) {
    return found.matches("[a-z]{1,8}|[0-9]{1,6}|[^a-z0-9]");
  }

  private boolean is(String token) {
    return tokens.get(at).equals(token);
  }

  private boolean isName() {
    return tokens.get(at).matches("[a-z]+") && !RESERVED.contains(tokens.get(at));
  }

  private boolean isNumber() {
    return tokens.get(at).matches("[0-9]+");
  }

  private int here() {
    return places.get(at);
  }

  private Fault unfit() {
    return new Fault(is("?") ? 1 : 2, here());
  }

  private void take(String token) {
    if (!is(token)) {
      throw unfit();
    }
    at++;
  }

  private String takeName() {
    if (!isName()) {
      throw unfit();
    }
    return tokens.get(at++);
  }

  private int takeNumber() {
    if (!isNumber()) {
      throw unfit();
    }
    return Integer.parseInt(tokens.get(at++));
  }

  private Table find(String name) {
    for (Table table : tables) {
      if (table.name.equals(name)) {
        return table;
      }
    }
    return null;
  }

  private Table takeTable() {
    int start = here();
    Table table = find(takeName());
    if (table == null) {
      throw new Fault(4, start);
    }
    return table;
  }

  private void table() {
    take("table");
    int start = here();
    Table table = new Table();
    table.name = takeName();
    if (find(table.name) != null) {
      throw new Fault(3, start);
    }
    tables.add(table);
    take(":");
    while (true) {
      start = here();
      String name = takeName();
      if (table.columns.size() == 5) {
        throw new Fault(2, start);
      }
      if (table.columns.contains(name)) {
        throw new Fault(3, start);
      }
      table.columns.add(name);
      if (is("to")) {
        at++;
        table.targets.add(takeTable());
      } else {
        table.targets.add(null);
      }
      if (!is(",")) {
        break;
      }
      at++;
    }
    take(";");
  }

  private void row(List<Object[]> links) {
    take("row");
    Table table = takeTable();
    take(":");
    int count = 0;
    while (true) {
      if (count == table.columns.size()) {
        throw unfit();
      }
      Table target = table.targets.get(count);
      if (is("-")) {
        at++;
      } else if (target == null) {
        takeNumber();
      } else {
        take("#");
        int start = here();
        links.add(new Object[] {target, takeNumber(), start});
      }
      count++;
      if (!is(",")) {
        break;
      }
      at++;
    }
    if (count < table.columns.size()) {
      throw unfit();
    }
    take(";");
    table.rows++;
    rows++;
  }

  private void need() {
    int start = here();
    int need = takeNumber();
    if (need < 1 || need > 16) {
      throw new Fault(6, start);
    }
  }

  private void law() {
    take("law");
    Table first = takeTable();
    take("needs");
    need();
    Table second = takeTable();
    take("by");
    int start = here();
    int column = second.columns.indexOf(takeName());
    if (column < 0 || second.targets.get(column) != first) {
      throw new Fault(4, start);
    }
    take(";");
  }

  private void wish() {
    take("wish");
    need();
    Table table = takeTable();
    if (is("where")) {
      at++;
      either(table, 0);
    }
    take(";");
  }

  private void either(Table table, int within) {
    one(table, within);
    while (is("and") || is("or")) {
      at++;
      one(table, within);
    }
  }

  private void one(Table table, int within) {
    if (within == 6) {
      throw unfit();
    }
    if (is("not")) {
      at++;
      one(table, within + 1);
    } else if (is("(")) {
      at++;
      either(table, within + 1);
      take(")");
    } else {
      path(table);
      if (!is("<") && !is(">") && !is("=")) {
        throw unfit();
      }
      at++;
      if (!is("-") && !isNumber()) {
        throw unfit();
      }
      at++;
    }
  }

  private void path(Table from) {
    if (!isName() || paths == 40) {
      throw unfit();
    }
    paths++;
    Table table = from;
    for (int names = 1; ; names++) {
      int start = here();
      if (names == 5) {
        throw unfit();
      }
      int column = table.columns.indexOf(takeName());
      if (column < 0) {
        throw new Fault(4, start);
      }
      table = table.targets.get(column);
      if (is(".") == (table == null)) {
        throw new Fault(4, start);
      }
      if (table == null) {
        return;
      }
      at++;
    }
  }
}
