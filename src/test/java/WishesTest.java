/** Promises 5, 6 and 9: the wishes' grammar, limits, faults, and for which rows they hold. */
public final class WishesTest {
  private static final Check CHECK = new Check();
  private static final int NONE = TruePiece.NONE;
  private static final String STORE =
      "table town: size, near to town;"
          + "table man: age, town to town, boss to man;"
          + "row town: 5, #1; row town: 9, -; row town: -, #0;"
          + "row man: 30, #0, -; row man: 40, #1, #0; row man: -, -, #1; row man: 20, #2, #3;";

  public static void main(String[] args) {
    taking();
    right();
    noTokens();
    misplaced();
    tooMany();
    names();
    needs();
    holding();
    meaning();
    CHECK.finish("WishesTest");
  }

  private static void taking() {
    TruePiece x = Check.with(STORE, "wish 1 man; law town needs 1 man by town; wish 2 town;");
    CHECK.due("wishes", x.about(2), 3);
    x.keep();
    x.hide(1, 0, 7);
    int kept = x.about(4);
    CHECK.due("faulty wishes", Check.wishes(x, "wish 1 man; wish"), NONE);
    CHECK.due("those there are stay", x.about(2), 3);
    CHECK.due("and hold", x.holds(2, 0), 1);
    CHECK.due("least stays", x.least(), kept);
    CHECK.due("the fault", x.fault(0), 2);
    CHECK.due("its place", x.fault(1), 16);
    CHECK.due("no wishes", Check.wishes(x, ""), 0);
    CHECK.due("no fault", x.fault(0), 0);
    CHECK.due("no place", x.fault(1), NONE);
    CHECK.due("kept stays", x.about(4), kept);
    CHECK.due("hidden stay", x.shown(3, 0), 30 * 15 + 7);
    CHECK.due("rows stay", x.about(1), 7);
    CHECK.due("least of no wishes", x.least(), 0);
    CHECK.due("wishes for no store", Check.wishes(new TruePiece(), "wish 1 a;"), NONE);
    CHECK.due("none for no store", Check.wishes(new TruePiece(), " "), 0);
  }

  private static void right() {
    wishRight("", 0);
    wishRight("wish 1 man;", 1);
    wishRight("wish 16 man where age<1;wish 01 town;", 2);
    wishRight("law town needs 16 man by town;", 1);
    wishRight("law town needs 1 town by near;law man needs 2 man by boss;", 2);
    wishRight("wish 1 man where age = - and age > - or not age < 3;", 1);
    wishRight("wish 1 man where(age=1)and(age=2)or(age=3);", 1);
    wishRight("wish 1 man where boss.boss.boss.age > 000001;", 1);
    wishRight("wish\n1\nman\nwhere\nboss\n.\ntown . near.size\n=\n5\n;", 1);
    wishRight("wish 1 man where not not not not not age = 1;", 1);
    wishRight("wish 1 man where (((((age = 1)))));", 1);
    wishRight("wish 1 man where not(not(not age=1 or age=2));", 1);
    wishRight("wish 1 man;".repeat(10), 10);
    wishRight("law man needs 1 man by boss;".repeat(9) + "wish 1 man;", 10);
    wishRight("wish 1 man where age=-" + "or age=-".repeat(39) + ";", 1);
    wishRight("wish 1 man where age=1 or age=2 and (age=3 or age=4) and not age=5;", 1);
  }

  private static void wishRight(String text, int count) {
    CHECK.wishRight(STORE, text, count);
  }

  private static void wishFault(String marked, int code) {
    CHECK.wishFault(STORE, marked, code);
  }

  private static void noTokens() {
    wishFault("^?", 1);
    wishFault("wish ^1man;", 1);
    wishFault("wish ^1234567 man;", 1);
    wishFault("wish 1 ^manmanman;", 1);
    wishFault("wish 1 man where age ^! 3;", 1);
    wishFault("wish 1 man where age = ^3or age = 4;", 1);
    wishFault("wish 1 man where ^[", 1);
    wishFault("wish 1 man where boss.^@", 1);
    wishFault("wish 1 man where boss.boss.boss.boss.^@", 1);
    wishFault("wish 1 man where not not not not not not ^@", 1);
    wishFault("wish 1 man;".repeat(10) + "^@", 1);
  }

  private static void misplaced() {
    String[] faulty = {"^man", "^;", "^1", "^table", "wish^", "wish ^man;", "wish ^-1 man;", "wish 1^",
        "wish 1 ^1;", "wish 1 ^law;", "wish 1 man^", "wish 1 man ^1;", "wish 1 man ^age = 1;",
        "wish 1 man where^", "wish 1 man where ^;", "wish 1 man where ^1 = age;",
        "wish 1 man where ^and;", "wish 1 man where age^", "wish 1 man where age^;",
        "wish 1 man where age ^:= 1;", "wish 1 man where age =^",
        "wish 1 man where age = ^age;", "wish 1 man where age = ^#1;", "wish 1 man where age =^= 1;",
        "wish 1 man where age = 1^", "wish 1 man where age = 1 ^age = 2;",
        "wish 1 man where age = 1 and^", "wish 1 man where age = 1 or ^;",
        "wish 1 man where age = 1^);", "wish 1 man where (age = 1^;", "wish 1 man where (^);",
        "wish 1 man where not^", "wish 1 man where not ^;", "wish 1 man where boss.^",
        "wish 1 man where boss.^where = 1;", "wish 1 man where boss.^.age = 1;",
        "wish 1 man where ^.age = 1;", "wish 1 man where age = -^1;", "law^", "law ^1;", "law town^",
        "law town ^need", "law town needs^", "law town needs ^man", "law town needs 1^",
        "law town needs 1 ^by", "law town needs 1 man^", "law town needs 1 man ^town;",
        "law town needs 1 man by^", "law town needs 1 man by ^;", "law town needs 1 man by town^",
        "law town needs 1 man by town ^where age = 1;", "law town needs 1 man by town ^.near;"};
    for (String text : faulty) {
      wishFault(text, 2);
    }
  }

  private static void tooMany() {
    wishFault("wish 1 man;".repeat(10) + "^wish 1 man;", 2);
    wishFault("wish 1 man;".repeat(10) + "^law town", 2);
    wishFault("wish 1 man;".repeat(10) + "^wish 99", 2);
    wishFault("wish 1 man where age=-" + "or age=-".repeat(39) + "or ^age=1;", 2);
    wishFault("wish 1 man where age=-" + "or age=-".repeat(38) + ";wish 1 man where age=-and ^no.no=1;", 2);
    wishFault("wish 1 man where boss.boss.boss.boss.^age = 1;", 2);
    wishFault("wish 1 man where boss.boss.boss.boss.^no = 1;", 2);
    wishFault("wish 1 man where not not not not not not ^age = 1;", 2);
    wishFault("wish 1 man where ((((((^age = 1))))));", 2);
    wishFault("wish 1 man where (not (not (not ^(age = 1))));", 2);
    wishFault("wish 1 man where (not (not (not ^not age = 1)));", 2);
    wishFault("wish 1 man where age = 1 or (((((age = 1 and not ^no = 1)))));", 2);
  }

  private static void names() {
    wishFault("wish 1 ^men;", 4);
    wishFault("wish 1 ^age;", 4);
    wishFault("wish 1 man where ^size = 1;", 4);
    wishFault("wish 1 man where ^boss = 1;", 4);
    wishFault("wish 1 man where ^boss = -;", 4);
    wishFault("wish 1 man where ^boss;", 4);
    wishFault("wish 1 man where ^age.age = 1;", 4);
    wishFault("wish 1 man where town.^age = 1;", 4);
    wishFault("wish 1 man where town.near.^near = 1;", 4);
    wishFault("wish 1 man where town.^size.near = 1;", 4);
    wishFault("wish 1 man where boss.boss.boss.^boss = 1;", 4);
    wishFault("wish 1 town where ^age = 1;", 4);
    wishFault("law ^no needs 1 man by town;", 4);
    wishFault("law town needs 1 ^no by town;", 4);
    wishFault("law town needs 1 man by ^no;", 4);
    wishFault("law town needs 1 man by ^age;", 4);
    wishFault("law town needs 1 man by ^boss;", 4);
    wishFault("law man needs 1 man by ^town;", 4);
    wishFault("law man needs 1 town by ^town;", 4);
  }

  private static void needs() {
    wishFault("wish ^0 man;", 6);
    wishFault("wish ^17 man;", 6);
    wishFault("wish ^999999 no;", 6);
    wishFault("law town needs ^0 man by town;", 6);
    wishFault("law town needs ^17 man by town;", 6);
  }

  private static void holding() {
    TruePiece x = Check.with(STORE, "wish 1 man where age > 25; law town needs 1 man by town; wish 3 town;");
    int[] men = {NONE, NONE, NONE, 1, 1, 0, 0};
    for (int row = 0; row < men.length; row++) {
      CHECK.due("holds of man " + row, x.holds(0, row), men[row]);
      CHECK.due("holds of a law " + row, x.holds(1, row), NONE);
      CHECK.due("holds of all towns " + row, x.holds(2, row), row < 3 ? 1 : NONE);
    }
    CHECK.due("holds of row 7", x.holds(0, 7), NONE);
    CHECK.due("holds of row -1", x.holds(0, -1), NONE);
    CHECK.due("holds of wish 3", x.holds(3, 0), NONE);
    CHECK.due("holds of wish -1", x.holds(-1, 3), NONE);
    CHECK.due("gone", x.gone(4), false);
    x = Check.with(STORE.replace("20, #2, #3", "20, #2, #1"), "wish 1 man where age = -;");
    CHECK.due("a man whom none leads", x.gone(5), true);
    CHECK.due("holds of a gone row", x.holds(0, 5), 1);
  }

  /** Of the men 3 to 6 those for whom an e is due to hold, as 1 and 0. */
  private static void meaning() {
    means("age = 30", "1000");
    means("age < 40", "1001");
    means("age > 20", "1100");
    means("age = -", "0010");
    means("age < -", "0000");
    means("age > -", "0000");
    means("not age = -", "1101");
    means("not age < 40", "0110");
    means("age > 0", "1101");
    means("town.size = 5", "1000");
    means("town.size = -", "0011");
    means("town.size > 0", "1100");
    means("town.near.size = 9", "1000");
    means("town.near.size = -", "0110");
    means("town.near.size = 5", "0001");
    means("boss.age = 30", "0100");
    means("boss.age = -", "1000");
    means("boss.boss.age = 30", "0010");
    means("boss.boss.boss.age = 20", "0001");
    means("boss.boss.boss.age = -", "1110");
    means("boss.town.near.size = 9", "0100");
    means("age = 30 or age = 40 and age = 20", "1000");
    means("age = 20 and age = 40 or age = 30", "1000");
    means("(age = 30 or age = 40) and age > 35", "0100");
    means("age > 35 and (age = 30 or age = 40)", "0100");
    means("not age = 30 and age > 0", "0101");
    means("not (age = 30 and age > 0)", "0111");
    means("not age = 30 or age = 30", "1111");
    means("not not age = 30", "1000");
    means("not not not (not age = 30)", "1000");
    means("age = 1 or age = 2 or age = 20", "0001");
    means("age > 1 and age < 45 and age > 25 and age < 35", "1000");
    means("age = 000030", "1000");
  }

  private static void means(String e, String due) {
    TruePiece x = Check.with(STORE, "wish 1 man where " + e + ";");
    for (int i = 0; i < due.length(); i++) {
      CHECK.due(e + " of man " + i, x.holds(0, 3 + i), due.charAt(i) - '0');
    }
  }
}
