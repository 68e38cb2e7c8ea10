import java.nio.charset.StandardCharsets;
import java.util.Random;

/** Spoilt texts and arguments of any kind: the fault that is due, and never an exception. */
public final class GarbageTest {
  private static final Check CHECK = new Check();
  private static final String STORE = "table town: size, near to town; table man: age, town to town,"
      + " boss to man; table b: v, w, x, y, z to b; row town: 5, #1; row town: 9, -; row man: 30, #0, -;"
      + " row man: 40, #1, #0; row b: 1, 2, 3, 4, #0; row man: -, -, #3; row man: 20, #0, #2;";
  private static final String WISHES = "wish 1 man where age > 35 and (town.size = 5 or boss.boss.town.size = -);"
      + " law town needs 1 man by town; wish 2 town where not not size < 9;"
      + " wish 3 b where v = 1 or w = 2 and not (x > - or (y = 1)); law b needs 16 b by z;";
  private static final String[] SNIPPETS = {"table ", "row ", " to ", "wish ", "law ", " where ", " needs ", " by ",
      " not ", " and ", " or ", ":", ",", ";", "#", "-", ".", "<", ">", "=", "(", ")", "0", "1", "17", "a", "man",
      "town", "boss", "age", "size", " ", "\n", "?", "\u00ff", "abcdefgh", "abcdefghi", "123456", "1234567", "7x",
      "table c: d;", "row town: 1, #0;", "wish 1 b;", "boss.", "(((", "not not not "};

  public static void main(String[] args) {
    Random random = new Random(11);
    for (int i = 0; i < 12000; i++) {
      spoiltStore(random);
      spoiltWishes(random);
    }
    for (int seed = 0; seed < 1000; seed++) {
      anyCalls(new Random(seed));
    }
    CHECK.finish("GarbageTest");
  }

  private static String spoilt(String text, Random random) {
    StringBuilder spoilt = new StringBuilder(text);
    int times = 1 + random.nextInt(3);
    for (int i = 0; i < times; i++) {
      int from = random.nextInt(spoilt.length() + 1);
      int to = Math.min(spoilt.length(), from + random.nextInt(6));
      switch (random.nextInt(4)) {
        case 0:
          spoilt.delete(from, to);
          break;
        case 1:
          spoilt.insert(from, SNIPPETS[random.nextInt(SNIPPETS.length)]);
          break;
        case 2:
          spoilt.insert(from, spoilt.substring(from, to));
          break;
        default:
          spoilt.replace(from, to, SNIPPETS[random.nextInt(SNIPPETS.length)]);
      }
    }
    if (random.nextInt(8) == 0) {
      spoilt.setLength(random.nextInt(spoilt.length() + 1));
    }
    return spoilt.toString();
  }

  private static void spoiltStore(Random random) {
    String text = spoilt(STORE, random);
    TruePiece x = new TruePiece();
    PlainReader plain = new PlainReader();
    CHECK.due("store " + text, Check.store(x, text), plain.store(text));
    CHECK.due("fault of " + text, x.fault(0), plain.code);
    CHECK.due("place in " + text, x.fault(1), plain.place);
  }

  private static void spoiltWishes(Random random) {
    String text = spoilt(WISHES, random);
    TruePiece x = Check.with(STORE, "");
    PlainReader plain = new PlainReader();
    CHECK.due("store", plain.store(STORE), 7);
    CHECK.due("wishes " + text, Check.wishes(x, text), plain.wishes(text));
    CHECK.due("fault of " + text, x.fault(0), plain.code);
    CHECK.due("place in " + text, x.fault(1), plain.place);
  }

  /** No answer is looked at but that there is one. */
  private static void anyCalls(Random random) {
    TruePiece x = new TruePiece();
    int calls = 0;
    while (calls < 470) {
      int form = random.nextInt(24);
      if (form >= 20 && x.end(0) == 0) {
        String text = form < 22 ? STORE : WISHES;
        text = random.nextInt(3) == 0 ? spoilt(text, random) : text;
        Check.type(x, text.getBytes(StandardCharsets.ISO_8859_1));
        calls += 2 + (text.length() + 19) / 20;
      }
      anyCall(x, form, random);
      calls++;
    }
    CHECK.due("calls ended", x.about(-1), TruePiece.NONE);
  }

  private static int any(Random random) {
    switch (random.nextInt(4)) {
      case 0:
        return random.nextInt();
      case 1:
        return random.nextInt(40) - 20;
      case 2:
        return new int[] {Integer.MIN_VALUE, Integer.MAX_VALUE, -1, 0}[random.nextInt(4)];
      default:
        return random.nextInt(6);
    }
  }

  private static void anyCall(TruePiece x, int form, Random random) {
    int a = any(random);
    int b = any(random);
    int c = any(random);
    switch (form) {
      case 0: x.feed(a, b, c, a ^ b, b ^ c); break;
      case 1: x.end(a); break;
      case 2: x.fault(a); break;
      case 3: x.row(a, b); break;
      case 4: x.value(a, b); break;
      case 5: x.holds(a, b); break;
      case 6: x.gone(a); break;
      case 7: x.least(); break;
      case 8: x.keep(); break;
      case 9: x.steady(); break;
      case 10: x.piece(a); break;
      case 11: x.why(a); break;
      case 12: x.order(a); break;
      case 13: x.rings(); break;
      case 14: x.hide(a, b, c); break;
      case 15: x.shown(a, b); break;
      case 16: x.weight(a, b, c > 0); break;
      case 17: x.about(a); break;
      case 18: case 20: case 21: x.store(); break;
      default: x.wishes();
    }
  }
}
