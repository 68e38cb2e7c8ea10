import java.util.Random;

/** Promises 9 to 17 and 20 against plain counting over all sets of rows, on made-up stores. */
public final class OracleTest {
  private static final Check CHECK = new Check();
  private static final int NONE = TruePiece.NONE;

  public static void main(String[] args) {
    for (int seed = 0; seed < 4000; seed++) {
      new OracleTest(new Random(seed), "store " + seed).run();
    }
    CHECK.finish("OracleTest");
  }

  private final Random random;
  private final String name;
  private final TruePiece x = new TruePiece();
  private final StringBuilder text = new StringBuilder();

  private int[][] targets;
  private int[] table;
  private int[] number;
  private int[][] value;
  private boolean[] gone;
  private int kept;

  private int[] kind;
  private int[] first;
  private int[] need;
  private int[] second;
  private int[] column;
  private boolean[][] fits;

  private OracleTest(Random random, String name) {
    this.random = random;
    this.name = name;
  }

  private void run() {
    makeStore();
    CHECK.due(name + " rows", Check.store(x, text.toString()), table.length);
    // Nothing is promised behind the 512th call of an object, so there are few rounds.
    for (int round = 0; round < 3; round++) {
      makeWishes();
      CHECK.due(name + " wishes " + text, Check.wishes(x, text.toString()), kind.length);
      compare(false);
      if (random.nextInt(2) == 0) {
        boolean is = bestOf(0) != NONE;
        CHECK.due(name + " keep", x.keep(), is);
        kept = is ? bestOf(0) : kept;
        CHECK.due(name + " kept", x.about(4), kept);
      }
      for (int i = 0; i < 2; i++) {
        takeAway(random.nextInt(table.length + 1));
      }
      compare(true);
    }
  }

  private void makeStore() {
    int tables = 1 + random.nextInt(4);
    targets = new int[tables][];
    text.setLength(0);
    for (int t = 0; t < tables; t++) {
      targets[t] = new int[1 + random.nextInt(4)];
      text.append("table ").append(letter(t)).append(':');
      for (int c = 0; c < targets[t].length; c++) {
        targets[t][c] = c == 0 ? NONE : random.nextInt(t + 2) - 1;
        text.append(c == 0 ? "" : ",").append('c').append(letter(c));
        text.append(targets[t][c] == NONE ? "" : " to " + letter(targets[t][c]));
      }
      text.append(';');
    }
    int rows = 1 + random.nextInt(10);
    table = new int[rows];
    number = new int[rows];
    value = new int[rows][];
    gone = new boolean[rows];
    int[] counts = new int[tables];
    for (int r = 0; r < rows; r++) {
      table[r] = random.nextInt(tables);
      number[r] = counts[table[r]]++;
    }
    int links = 1 + random.nextInt(4);
    for (int r = 0; r < rows; r++) {
      value[r] = new int[targets[table[r]].length];
      text.append("row ").append(letter(table[r])).append(':');
      for (int c = 0; c < value[r].length; c++) {
        int target = targets[table[r]][c];
        value[r][c] = target == NONE ? random.nextInt(6) - 1 : linked(target, links);
        text.append(c == 0 ? "" : ",");
        text.append(value[r][c] == NONE ? "-" : target == NONE ? "" + value[r][c] : "#" + number[value[r][c]]);
      }
      text.append(';');
    }
  }

  private int linked(int target, int links) {
    int r = random.nextInt(table.length);
    return table[r] == target && random.nextInt(5) < links ? r : NONE;
  }

  private void makeWishes() {
    int count = random.nextInt(6);
    kind = new int[count];
    first = new int[count];
    need = new int[count];
    second = new int[count];
    column = new int[count];
    fits = new boolean[count][];
    text.setLength(0);
    for (int i = 0; i < count; i++) {
      need[i] = 1 + random.nextInt(3);
      second[i] = random.nextInt(targets.length);
      column[i] = random.nextInt(targets[second[i]].length);
      if (targets[second[i]][column[i]] != NONE && random.nextInt(3) > 0) {
        kind[i] = 1;
        first[i] = targets[second[i]][column[i]];
        text.append("law ").append(letter(first[i])).append(" needs ").append(need[i]).append(' ');
        text.append(letter(second[i])).append(" by c").append(letter(column[i])).append(";");
      } else {
        makeWish(i);
      }
    }
  }

  private void makeWish(int i) {
    first[i] = random.nextInt(targets.length);
    text.append("wish ").append(need[i]).append(' ').append(letter(first[i]));
    fits[i] = new boolean[table.length];
    java.util.Arrays.fill(fits[i], true);
    if (random.nextInt(4) > 0) {
      text.append(" where ");
      fits[i] = either(first[i], 2);
    }
    text.append(';');
  }

  private boolean[] either(int of, int depth) {
    boolean[] any = both(of, depth);
    while (random.nextInt(3) == 0) {
      text.append(" or ");
      boolean[] next = both(of, depth);
      for (int r = 0; r < any.length; r++) {
        any[r] |= next[r];
      }
    }
    return any;
  }

  private boolean[] both(int of, int depth) {
    boolean[] all = one(of, depth);
    while (random.nextInt(3) == 0) {
      text.append(" and ");
      boolean[] next = one(of, depth);
      for (int r = 0; r < all.length; r++) {
        all[r] &= next[r];
      }
    }
    return all;
  }

  private boolean[] one(int of, int depth) {
    int form = depth == 0 || text.length() > 60 ? 2 : random.nextInt(4);
    if (form == 0) {
      text.append("not ");
      boolean[] held = one(of, depth - 1);
      for (int r = 0; r < held.length; r++) {
        held[r] = !held[r];
      }
      return held;
    }
    if (form == 1) {
      text.append('(');
      boolean[] held = either(of, depth - 1);
      text.append(')');
      return held;
    }
    return comparison(of);
  }

  private boolean[] comparison(int of) {
    int[] reached = new int[table.length];
    for (int r = 0; r < reached.length; r++) {
      reached[r] = table[r] == of ? r : NONE;
    }
    int at = of;
    for (int names = 1; names <= 4; names++) {
      int c = names == 4 ? 0 : random.nextInt(targets[at].length);
      text.append(names == 1 ? "" : ".").append('c').append(letter(c));
      for (int r = 0; r < reached.length; r++) {
        reached[r] = reached[r] == NONE ? NONE : value[reached[r]][c];
      }
      at = targets[at][c];
      if (at == NONE) {
        break;
      }
    }
    char sign = "<>=".charAt(random.nextInt(3));
    int bound = random.nextInt(6) - 1;
    text.append(sign).append(bound == NONE ? "-" : "" + bound);
    boolean[] held = new boolean[reached.length];
    for (int r = 0; r < reached.length; r++) {
      if (bound == NONE) {
        held[r] = sign == '=' && reached[r] == NONE;
      } else if (reached[r] != NONE) {
        held[r] = sign == '=' ? reached[r] == bound : sign == '<' ? reached[r] < bound : reached[r] > bound;
      }
    }
    return held;
  }

  private void takeAway(int r) {
    boolean can = r < table.length && !gone[r];
    for (int other = 0; can && other < table.length; other++) {
      can = gone[other] || !links(other, r);
    }
    CHECK.due(name + " gone " + r, x.gone(r), can);
    if (can) {
      gone[r] = true;
    }
  }

  private boolean links(int from, int to) {
    for (int c = 0; c < value[from].length; c++) {
      if (targets[table[from]][c] != NONE && value[from][c] == to) {
        return true;
      }
    }
    return false;
  }

  private void compare(boolean again) {
    // That a row is gone changes nothing for which a wish holds.
    for (int i = 0; i < kind.length && !again; i++) {
      for (int r = 0; r < table.length; r++) {
        int due = kind[i] == 1 || table[r] != first[i] ? NONE : fits[i][r] ? 1 : 0;
        CHECK.due(name + " holds " + i + "," + r + " " + text, x.holds(i, r), due);
      }
    }
    for (int i = 0; i < 8; i++) {
      int set = random.nextInt(1 << table.length);
      CHECK.due(name + " piece " + set, x.piece(set), isPiece(set) ? 1 : 0);
    }
    int least = bestOf(0);
    CHECK.due(name + " least by " + text, x.least(), least);
    CHECK.due(name + " steady by " + text, x.steady(), bestOf(kept));
    for (int r = 0; r < table.length; r++) {
      CHECK.due(name + " why " + r, x.why(r), why(least, r));
    }
    compareOrder(least);
    compareWeights(least);
  }

  private boolean isPiece(int set) {
    for (int r = 0; r < table.length; r++) {
      for (int other = 0; in(set, r) && other < table.length; other++) {
        if (gone[r] || links(r, other) && !in(set, other)) {
          return false;
        }
      }
    }
    for (int i = 0; i < kind.length; i++) {
      if (kind[i] == 0 ? !isMet(i, set) : !isKept(i, set)) {
        return false;
      }
    }
    return true;
  }

  private boolean isMet(int wish, int set) {
    int count = 0;
    for (int r = 0; r < table.length; r++) {
      count += in(set, r) && table[r] == first[wish] && fits[wish][r] ? 1 : 0;
    }
    return count >= need[wish];
  }

  private boolean isKept(int law, int set) {
    for (int r = 0; r < table.length; r++) {
      if (!in(set, r) || table[r] != first[law]) {
        continue;
      }
      int linking = 0;
      int left = 0;
      for (int other = 0; other < table.length; other++) {
        if (table[other] == second[law] && value[other][column[law]] == r && !gone[other]) {
          left++;
          linking += in(set, other) ? 1 : 0;
        }
      }
      if (linking < need[law] && linking < left) {
        return false;
      }
    }
    return true;
  }

  private int bestOf(int from) {
    int best = NONE;
    for (int set = 0; set < 1 << table.length; set++) {
      if (isPiece(set) && (best == NONE || isBetter(set, best, from))) {
        best = set;
      }
    }
    return best;
  }

  private boolean isBetter(int set, int than, int from) {
    if (changes(set, from) != changes(than, from)) {
      return changes(set, from) < changes(than, from);
    }
    if (Integer.bitCount(set) != Integer.bitCount(than)) {
      return Integer.bitCount(set) < Integer.bitCount(than);
    }
    for (int r = 0; r < table.length; r++) {
      if (in(set, r) != in(than, r)) {
        return in(set, r);
      }
    }
    return false;
  }

  private int changes(int set, int from) {
    int count = 0;
    for (int r = 0; r < table.length; r++) {
      count += !gone[r] && in(set, r) != in(from, r) ? 1 : 0;
    }
    return count;
  }

  private int why(int least, int row) {
    if (least == NONE || !in(least, row)) {
      return least == NONE ? NONE : 0;
    }
    int left = least & ~(1 << row);
    for (int i = 0; i < kind.length; i++) {
      if (kind[i] == 0 && !isMet(i, left)) {
        return 1;
      }
    }
    for (int other = 0; other < table.length; other++) {
      if (in(left, other) && links(other, row)) {
        return 2;
      }
    }
    return 3;
  }

  private void compareOrder(int least) {
    int left = Math.max(least, 0);
    int k = 0;
    for (int r = 0; r < table.length; r++) {
      boolean free = in(left, r);
      for (int other = 0; free && other < table.length; other++) {
        free = other == r || !in(left, other) || !links(r, other);
      }
      if (free) {
        CHECK.due(name + " order " + k, x.order(k), r);
        k++;
        left &= ~(1 << r);
        r = -1;
      }
    }
    CHECK.due(name + " order behind all", x.order(k), NONE);
    CHECK.due(name + " rings", x.rings(), least == NONE ? NONE : Integer.bitCount(left));
  }

  private void compareWeights(int least) {
    int t = random.nextInt(targets.length);
    for (int c = 0; c < targets[t].length; c++) {
      long all = 0;
      long part = 0;
      for (int r = 0; r < table.length; r++) {
        long plain = table[r] == t ? Math.max(0, value[r][c]) : 0;
        all += gone[r] ? 0 : plain;
        part += in(least, r) ? plain : 0;
      }
      boolean none = least == NONE || targets[t][c] != NONE || part == 0;
      long divisor = 1;
      for (long d = 1; d <= part; d++) {
        divisor = all % d == 0 && part % d == 0 ? d : divisor;
      }
      CHECK.due(name + " numerator " + t + "," + c, x.weight(t, c, false), none ? NONE : all / divisor);
      CHECK.due(name + " denominator " + t + "," + c, x.weight(t, c, true), none ? NONE : part / divisor);
    }
  }

  private static boolean in(int set, int row) {
    return (set & 1 << row) != 0;
  }

  private static char letter(int i) {
    return (char) ('a' + i);
  }
}
