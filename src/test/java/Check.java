import java.nio.charset.StandardCharsets;
import java.util.Arrays;

/** Counts answers that are not due, and types texts onto a tape. */
final class Check {
  private int wrong;
  private int asked;
  private String sentence = "";
  private int askedAhead;

  /** What is asked from here on is asked for this sentence of the document. */
  void sentence(String words) {
    closeSentence();
    sentence = words;
    askedAhead = asked;
  }

  private void closeSentence() {
    if (!sentence.isEmpty() && asked == askedAhead) {
      wrong++;
      System.out.println("nothing was asked for \"" + sentence + "\"");
    }
  }

  void due(String what, long got, long want) {
    due(what, Long.toString(got), Long.toString(want));
  }

  void due(String what, String got, String want) {
    asked++;
    if (!got.equals(want)) {
      wrong++;
      String of = sentence.isEmpty() ? "" : "\"" + sentence + "\": ";
      System.out.println(of + what + " answered " + got + ", due is " + want);
    }
  }

  void due(String what, boolean got, boolean want) {
    due(what, got ? 1 : 0, want ? 1 : 0);
  }

  /** The tape must be empty, as it is behind store() and wishes(). */
  static void type(TruePiece x, String text) {
    type(x, text.getBytes(StandardCharsets.ISO_8859_1));
  }

  static void type(TruePiece x, byte[] text) {
    byte[] padded = Arrays.copyOf(text, (text.length + 19) / 20 * 20);
    for (int i = 0; i < padded.length; i += 20) {
      int fed = x.feed(four(padded, i), four(padded, i + 4), four(padded, i + 8),
          four(padded, i + 12), four(padded, i + 16));
      if (fed != i + 20) {
        throw new IllegalStateException("fed " + fed + " of a text of " + text.length);
      }
    }
    if (x.end(text.length) != text.length) {
      throw new IllegalStateException("the text did not end at " + text.length);
    }
  }

  private static int four(byte[] bytes, int at) {
    int number = 0;
    for (int i = 0; i < 4; i++) {
      number = number << 8 | bytes[at + i] & 255;
    }
    return number;
  }

  static int store(TruePiece x, String text) {
    type(x, text);
    return x.store();
  }

  static int wishes(TruePiece x, String text) {
    type(x, text);
    return x.wishes();
  }

  static TruePiece with(String store, String wishes) {
    TruePiece x = new TruePiece();
    if (store(x, store) < 0 || wishes(x, wishes) < 0) {
      throw new IllegalStateException(
          "fault " + x.fault(0) + " at " + x.fault(1) + " of " + store + " with " + wishes);
    }
    return x;
  }

  /** The first ^ stands in the text where the fault is due. */
  void storeFault(String marked, int code) {
    TruePiece x = new TruePiece();
    String text = marked.replaceFirst("\\^", "");
    due("store " + marked, store(x, text), TruePiece.NONE);
    due("fault of " + marked, x.fault(0), code);
    due("place in " + marked, x.fault(1), marked.indexOf('^'));
  }

  void storeRight(String text, int rows) {
    TruePiece x = new TruePiece();
    due("store " + text, store(x, text), rows);
    due("fault of " + text, x.fault(0), 0);
    due("place in " + text, x.fault(1), TruePiece.NONE);
  }

  void wishFault(String store, String marked, int code) {
    TruePiece x = with(store, "");
    String text = marked.replaceFirst("\\^", "");
    due("wishes " + marked, wishes(x, text), TruePiece.NONE);
    due("fault of " + marked, x.fault(0), code);
    due("place in " + marked, x.fault(1), marked.indexOf('^'));
  }

  void wishRight(String store, String text, int count) {
    TruePiece x = with(store, "");
    due("wishes " + text, wishes(x, text), count);
    due("fault of " + text, x.fault(0), 0);
    due("place in " + text, x.fault(1), TruePiece.NONE);
  }

  static int bits(int... rows) {
    int set = 0;
    for (int row : rows) {
      set |= 1 << row;
    }
    return set;
  }

  void finish(String name) {
    closeSentence();
    System.out.println(name + ": " + asked + " answers, " + wrong + " not as due");
    if (wrong != 0 || asked == 0) {
      System.exit(1);
    }
  }
}
