/**
 * Parts 2 to 4 of the document's terms: each sentence that names a boundary has a test of its own, at
 * the boundary and on both its sides. The sentence stands ahead of its test.
 */
public final class TermBoundariesTest {
  private static final int NONE = GuildCharter.NONE;
  private static final int GAP = GuildCharter.GAP;
  private static final int CANNOT = -2;
  private static final Check C = new Check("TermBoundariesTest");

  /** Each guild likes the word of its number, and any row of these is a charter. */
  private static final String OWN = "word a 51 50 50; word b 50 51 50; word c 50 50 51; rule s = x or x s; rule x = a or b or c;";
  private static final int[][] ORDERS = {{0, 1, 2}, {0, 2, 1}, {1, 0, 2}, {1, 2, 0}, {2, 0, 1}, {2, 1, 0}};

  public static void main(String[] args) {
    noneEmptyTest();
    aWordItselfTest();
    ruleNoughtTest();
    withoutRulesTest();
    altsToldTwiceTest();
    mostReadingsTest();
    charterLengthTest();
    goOnTest();
    meansTest();
    writtenOnlySoTest();
    writtenMostTest();
    likeOnesTest();
    heldTest();
    heldOfWhatCanGoOnTest();
    shareTest();
    swapMoreToBothTest();
    swapOfTwoGuildsTest();
    swapNotWrittenYetTest();
    swapFirstTwoTest();
    bribeTest();
    bribeNotEnoughTest();
    bribeKnownToAllTest();
    ofUseTest();
    shortestTest();
    doubtfulTest();
    spentFromTheEmptyRowTest();
    spentFromARowTest();
    spentForHolesTest();
    emptyAtFirstTest();
    wordsComeTest();
    turnsSoldTest();
    undoTest();
    redoTest();
    mostActsTest();
    wipedTest();
    lotsTest();
    holesTest();
    likeHolesTest();
    struckTest();
    struckLikeOnesTest();
    mostSeenTest();
    timeTest();
    untoldTest();
    asKnownTest();
    ordersTest();
    C.finish();
  }

  // ---- what the tests share

  private static void lying(GuildCharter x, int... words) {
    C.due("about(11)", x.about(11), words.length);
    for (int i = 0; i < words.length; i++) {
      C.due("lies(" + i + ")", x.lies(i), words[i]);
    }
    C.due("lies(" + words.length + ")", x.lies(words.length), NONE);
  }

  private static GuildCharter writing(String text, int... words) {
    GuildCharter x = Check.made(text);
    for (int i = 0; i < words.length; i++) {
      C.due("write(" + words[i] + ") in [" + text + "]", x.write(words[i]), i + 1);
    }
    return x;
  }

  /**
   * Two PLACES, each a or b, whose four charters are worth as told to guilds 0 and 1; to have one
   * WORD more ahead, between or behind, the alt can be told.
   */
  private static String game(String alt, String turns, int[] aa, int[] ab, int[] ba, int[] bb) {
    String text = "word a 50 50 50; word b 50 50 50; word z 50 50 50;";
    int[][] worths = {aa, ab, ba, bb};
    String[] pairs = {"a a", "a b", "b a", "b b"};
    for (int i = 0; i < 4; i++) {
      text += "pair " + pairs[i] + " " + (50 + worths[i][0]) + " " + (50 + worths[i][1]) + " 50;";
    }
    int length = alt.split(" ").length;
    return text + "rule s = " + alt + "; rule x = a or b; length " + length + "; turns " + turns + ";";
  }

  private static int[] p(int... worths) {
    return worths;
  }

  // ---- part 2: what is READ

  private static void noneEmptyTest() {
    C.sentence("2: put together of ROWS that the NAMES of one of its alts READ (..), one behind the other, none empty");
    for (int names = 1; names <= 4; names++) {
      for (int length = 1; length <= 6; length++) {
        String alt = "x" + " x".repeat(names - 1);
        GuildCharter x = Check.made("word a 50 50 50; rule s = " + alt + "; rule x = a; length " + length + ";");
        C.due(names + " NAMES, " + length + " WORDS", x.next(), names == length ? 1 : 0);
        x = Check.made("word a 50 50 50; rule s = " + alt + "; rule x = a or x a; length " + length + ";");
        C.due(names + " NAMES of any, " + length + " WORDS", x.next(), names <= length ? 1 : 0);
      }
    }
    GuildCharter x = Check.made("word a 50 50 50; rule s = a s; length 2;");
    C.due("one that never ends", x.next(), 0);
    C.due("one that never ends, fit()", x.fit(), 0);
  }

  private static void aWordItselfTest() {
    C.sentence("2: (a WORD: itself)");
    GuildCharter x = writing("word a 50 50 50; word b 50 50 50; rule s = a b; length 2;", 0);
    C.due("b behind a", x.next(), 2);
    C.due("fit()", x.fit(), 1);
    x.hole(0, 1);
    C.due("b first", x.fit(), 0);
    String words = "";
    for (char word = 'a'; word <= 'h'; word++) {
      words += "word " + word + " 50 50 50;";
    }
    String rules = "length 1; rule s = t; rule t = u; rule u = v; rule v = w; rule w = x; rule x = y; rule y = z; rule z = ";
    for (int word = 0; word < 8; word++) {
      x = Check.made(words + rules + (char) ('a' + word) + ";");
      C.due("one of eight by way of eight RULES", x.next(), 1 << word);
      C.due("fit()", x.fit(), 1);
    }
  }

  private static void ruleNoughtTest() {
    C.sentence("2: A SENTENCE is READ by RULE 0");
    GuildCharter x = Check.made("word a 50 50 50; word b 50 50 50; rule s = a; rule t = b; length 1;");
    C.due("RULE 0 and not RULE 1", x.next(), 1);
    x = Check.made("word a 50 50 50; word b 50 50 50; rule t = b; rule s = a; length 1;");
    C.due("told the other way round", x.next(), 2);
    x.write(1);
    C.due("readings()", x.readings(), 1);
  }

  private static void withoutRulesTest() {
    C.sentence("2: (without RULES none is)");
    GuildCharter x = Check.made("word a 50 50 50; length 1;");
    C.due("write(0)", x.write(0), NONE);
    C.due("next()", x.next(), 0);
    C.due("readings()", x.readings(), 0);
    C.due("fit()", x.fit(), 0);
    C.due("used()", x.used(), 0);
    C.due("written(0)", x.written(0), GAP);
    x = Check.made("word a 50 50 50; rule s = a; length 1;");
    C.due("with one", x.next(), 1);
    C.due("with one, fit()", x.fit(), 1);
    Check.port(x, "word a 50 50 50; length 1;");
    C.due("without again, next()", x.next(), 0);
    C.due("without again, fit()", x.fit(), 0);
    C.due("without again, doubtful()", x.doubtful(), 0);
    C.due("without again, orders(0)", x.orders(0), 0);
    C.due("without again, struck(0)", x.struck(0), NONE);
  }

  private static void altsToldTwiceTest() {
    C.sentence("2: READINGS of a ROW: in how many ways it is so (alts told twice are two");
    C.due("once", writing("word a 50 50 50; rule s = a; length 1;", 0).readings(), 1);
    C.due("twice", writing("word a 50 50 50; rule s = a or a; length 1;", 0).readings(), 2);
    C.due("three times", writing("word a 50 50 50; rule s = a or a or a; length 1;", 0).readings(), 3);
    C.due("two times two", writing("word a 50 50 50; rule s = x x; rule x = a or a; length 2;", 0, 0).readings(), 4);
    C.due("24 of them", writing("word a 50 50 50; rule s = a" + " or a".repeat(23) + "; length 1;", 0).readings(), 24);
    C.due("no SENTENCE", writing("word a 50 50 50; rule s = a a; length 2;", 0).readings(), 0);
    C.due("empty", Check.made("word a 50 50 50; rule s = a; length 1;").readings(), 0);
    int[] brackets = {0, 1, 1, 2, 5, 14, 42};
    GuildCharter x = Check.made("word a 50 50 50; rule s = s s or a; length 6;");
    for (int size = 0; size <= 6; size++) {
      C.due("brackets of " + size, x.readings(), brackets[size]);
      x.write(0);
    }
    x = Check.made("word a 50 50 50; rule s = a s or a a s or a; length 6;");
    // The last a is alone; ahead of it steps of one or two.
    int[] steps = {0, 1, 1, 2, 3, 5, 8};
    for (int size = 0; size <= 6; size++) {
      C.due("steps of " + size, x.readings(), steps[size]);
      x.write(0);
    }
  }

  private static String times(String rule, int times, String name, int more) {
    return "rule " + rule + " = " + name + (" or " + name).repeat(times - 1) + " or a".repeat(more) + ";";
  }

  private static void mostReadingsTest() {
    C.sentence("2: (.. 1,000,000,000 if there are more)");
    String word = "word a 50 50 50;";
    String thousand = times("t", 5, "u", 0) + times("u", 5, "v", 0) + times("v", 5, "w", 0) + times("w", 2, "y", 0)
        + times("y", 2, "z", 0) + times("z", 2, "a", 0);
    GuildCharter x = writing(word + "rule s = t t t;" + thousand, 0, 0, 0);
    C.due("as many", x.readings(), 1000000000);
    C.due("as many, doubtful()", x.doubtful(), 1000000000);
    x = writing(word + "rule s = t t t or a a a;" + thousand, 0, 0, 0);
    C.due("one more", x.readings(), 1000000000);
    C.due("one more, doubtful()", x.doubtful(), 1000000000);
    x = writing(word + "rule s = a or a s or t t t;" + thousand, 0, 0, 0);
    C.due("one more by another alt ahead", x.readings(), 1000000000);
    // q is 3 * 3 * 3 * (4 * 3 * 3 + 1) = 999, t one more: 999 * 1000 * 1000 + 999 * 1000.
    String below = times("q", 3, "u", 0) + times("u", 3, "v", 0) + times("v", 3, "w", 0) + times("w", 4, "y", 1)
        + times("y", 3, "z", 0) + times("z", 3, "a", 0);
    x = writing(word + "rule s = q t t or q t a; rule t = q or a;" + below, 0, 0, 0);
    C.due("not so many", x.readings(), 999999000);
    C.due("not so many, doubtful()", x.doubtful(), 999999000);
    x = writing(word + "length 6; rule s = r r; rule r = t t t;" + thousand, 0, 0, 0, 0, 0, 0);
    C.due("as many times as many", x.readings(), 1000000000);
    x = writing(word + "length 4; rule s = t t t t;" + thousand, 0, 0, 0, 0);
    C.due("a thousand times as many", x.readings(), 1000000000);
  }

  private static void charterLengthTest() {
    C.sentence("2: A CHARTER is a SENTENCE of length WORDS; PLACES are 0 .. length - 1");
    for (int length = 1; length <= 6; length++) {
      GuildCharter x = Check.made("word a 50 50 50; rule s = a or a s; length " + length + ";");
      C.due("one CHARTER of " + length, x.fit(), 1);
      for (int size = 1; size <= length; size++) {
        C.due("next() of " + (size - 1), x.next(), 1);
        C.due("a SENTENCE goes on", x.write(0), size);
      }
      C.due("next() of " + length, x.next(), 0);
      C.due("no WORD behind it", x.write(0), NONE);
      C.due("the last PLACE", x.word(length - 1), 0);
      C.due("none behind it", x.word(length), NONE);
      C.due("written(0)", x.written(0), 0);
      C.due("so many lie there", x.about(11), length);
    }
    C.due("a SENTENCE of fewer", Check.made("word a 50 50 50; rule s = a a; length 3;").next(), 0);
    C.due("a SENTENCE of as many", Check.made("word a 50 50 50; rule s = a a a; length 3;").next(), 1);
    C.due("a SENTENCE of more", Check.made("word a 50 50 50; rule s = a a a a; length 3;").next(), 0);
  }

  private static void goOnTest() {
    C.sentence("2: A ROW of fewer can GO ON, if a CHARTER begins with it");
    GuildCharter x = Check.made("word a 50 50 50; word b 50 50 50; word c 50 50 50; rule s = a b c or a c or b or c c c c;");
    C.due("a", x.next(), 1);
    C.due("b is a SENTENCE", x.write(1), NONE);
    C.due("c begins a longer one", x.write(2), NONE);
    C.due("write a", x.write(0), 1);
    C.due("behind a", x.next(), 2);
    C.due("a c is a SENTENCE", x.write(2), NONE);
    C.due("write b", x.write(1), 2);
    C.due("behind a b", x.next(), 4);
    C.due("write c", x.write(2), 3);
    C.due("a CHARTER can't", x.next(), 0);
    C.due("the empty one can't", Check.made("word a 50 50 50; rule s = a a; length 1;").written(0), GAP);
    C.due("the empty one can", Check.made("word a 50 50 50; rule s = a; length 1;").written(0), 0);
    x = Check.made("word a 50 50 50; word b 50 50 50; rule s = x a or y b; rule x = a a or b b; rule y = a b or b a;");
    x.write(0);
    C.due("either behind a", x.next(), 3);
    x.fit();
    x.write(1);
    C.due("only b behind a b", x.next(), 2);
    x.undo();
    x.hole(0, 1);
    C.due("two with b first", x.fit(), 2);
    C.due("behind a still", x.next(), 3);
    x.write(0);
    C.due("only a behind a a", x.next(), 1);
    x.hole(1, 0);
    C.due("b a b", x.fit(), 1);
    C.due("write b behind a a", x.write(1), NONE);
    C.due("write a behind a a", x.write(0), 3);
    // Other ROWS that were looked at in between, for holes, change nothing.
    x = Check.made("word a 50 50 50; word b 50 50 50; word c 50 50 50; rule s = a a b or b c a or c b c;");
    for (int word = 0; word < 3; word++) {
      x.write(word);
      for (int other = 0; other < 3; other++) {
        x.hole(0, other);
        C.due("one fits", x.fit(), 1);
        C.due("next() behind " + word, x.next(), word == 0 ? 1 : word == 1 ? 4 : 2);
        x.hole(0, other == 0 ? 1 : 0);
        x.fit();
        C.due("write() behind " + word, x.write(word == 0 ? 1 : 0), NONE);
      }
      x.undo();
    }
  }

  private static void meansTest() {
    C.sentence("2: It MEANS to a GUILD what its WORDS are WORTH, and its pairs (two WORDS, one directly behind the other)");
    String most = "word a 99 0 50; pair a a 99 0 50; rule s = a or a s; length 6;";
    GuildCharter x = Check.made(most);
    int[] all = {0, 49, 147, 245, 343, 441, 539};
    int[] least = {0, -50, -150, -250, -350, -450, -550};
    for (int size = 0; size <= 6; size++) {
      C.due("the most, " + size, x.means(0), all[size]);
      C.due("the least, " + size, x.means(1), least[size]);
      C.due("nothing, " + size, x.means(2), 0);
      x.write(0);
    }
    C.due("written(0)", x.written(0), 539);
    C.due("written(1)", x.written(1), -550);
    C.due("held(1)", x.held(1), 539);
    C.due("held(2)", x.held(2), -550);
    C.due("held(3)", x.held(3), -11);
    C.due("best(0)", x.best(0), 539);
    C.due("best(1)", x.best(1), -550);
    C.due("lots(0)", x.lots(0), 6 * 539);
    C.due("lots(1)", x.lots(1), 6 * -550);
    x = writing("word a 50 50 50; word b 50 50 50; word c 50 50 50; pair a c 60 50 50; pair b a 70 50 50; rule s = a b c;", 0, 1, 2);
    C.due("not directly behind", x.means(0), 0);
    x = writing("word a 50 50 50; word b 50 50 50; pair b a 70 50 50; rule s = b b a;", 1, 1);
    C.due("the first of two is no pair", x.means(0), 0);
    x.write(0);
    C.due("the second is", x.means(0), 20);
  }

  // ---- part 2: best play

  private static void writtenOnlySoTest() {
    C.sentence("2: writes a WORD by which it can GO ON (or is a CHARTER)");
    GuildCharter x = Check.made("word a 50 50 50; word b 99 99 99; rule s = a a a or b b or a b; length 3;");
    C.due("no b, whatever it is worth", x.written(0), 0);
    lying(x, 0, 0, 0);
    x = Check.made("word a 50 50 50; word b 99 99 99; rule s = a a a or a a b; length 3;");
    C.due("b at the end", x.written(0), 49);
    lying(x, 0, 0, 1);
    C.due("from a CHARTER", writing("word a 51 50 50; rule s = a a;length 2;", 0, 0).written(0), 2);
    C.due("from one WORD less", writing("word a 51 50 50; rule s = a a;length 2;", 0).written(0), 2);
    C.due("from none", writing("word a 51 50 50; rule s = a a;length 2;").written(0), 2);
    x = Check.made("word a 50 50 50; word b 50 50 50; word c 50 50 50; rule s = a a b or b c a or c b c;");
    int[][] charters = {{0, 0, 1}, {1, 2, 0}, {2, 1, 2}};
    for (int word = 0; word < 3; word++) {
      for (int other = 0; other < 3; other++) {
        x.write(word);
        x.hole(0, other);
        x.fit();
        C.due("from another ROW each time", x.written(0), 0);
        lying(x, charters[word]);
        x.undo();
      }
    }
  }

  private static void writtenMostTest() {
    C.sentence("2: the one that in the end MEANS most to his GUILD, all others doing so, too");
    // Guild 0 gives way at first: b is worth one more at once, but behind it guild 1 writes what costs him two.
    GuildCharter x = Check.made(game("x x", "0 1", p(0, 0), p(0, -1), p(3, 0), p(-1, 1)));
    C.due("a a", x.written(0), 0);
    lying(x, 0, 0);
    x = Check.made(game("x x", "0 1", p(0, 0), p(0, -1), p(3, 1), p(-1, 0)));
    C.due("b a", x.written(0), 3);
    lying(x, 1, 0);
    x = Check.made(game("x x", "1 0", p(0, 0), p(0, -1), p(3, 1), p(-1, 0)));
    C.due("b a by the other", x.written(1), 1);
    lying(x, 1, 0);
    x = Check.made(game("x x", "0", p(0, 0), p(0, -1), p(1, 1), p(2, -9)));
    C.due("by one alone", x.written(0), 2);
    C.due("who does not care", x.written(1), -9);
    lying(x, 1, 1);
    x = Check.made(game("x x", "2", p(0, 0), p(9, 9), p(9, 9), p(9, 9)));
    C.due("by the third", x.written(0), 0);
    lying(x, 0, 0);
  }

  private static void likeOnesTest() {
    C.sentence("2: of like ones the first WORD");
    GuildCharter x = Check.made(game("x x", "0 1", p(1, 0), p(0, -1), p(1, 5), p(0, 0)));
    C.due("the first at the first PLACE", x.written(1), 0);
    lying(x, 0, 0);
    x = Check.made(game("x x", "0 1", p(1, 0), p(0, -1), p(2, 5), p(0, 0)));
    C.due("the second, if it is worth one more", x.written(1), 5);
    lying(x, 1, 0);
    x = Check.made(game("x x", "0 1", p(-1, 0), p(5, 0), p(-5, 0), p(5, 0)));
    C.due("the first at the second PLACE", x.written(0), -1);
    lying(x, 0, 0);
    x = Check.made("word b 50 50 50; word a 50 50 50; rule s = a or b; length 1;");
    x.written(0);
    lying(x, 0);
    x = Check.made("word a 50 50 50; word b 50 50 50; word c 50 50 50; rule s = c or b; length 1;");
    x.written(0);
    lying(x, 1);
  }

  private static void heldTest() {
    C.sentence("2: the most that what it MEANS to them, added, can be made sure of by these, whatever others write");
    // One PLACE, guild 2 writes: a is worth nothing to any, b is worth 2, -1, 0.
    GuildCharter x = Check.made("word a 50 50 50; word b 52 49 50; rule s = a or b; length 1; turns 2;");
    int[] held = {GAP, 0, -1, 0, 0, 2, 0, 1, GAP};
    for (int guilds = 0; guilds <= 8; guilds++) {
      C.due("held(" + guilds + ")", x.held(guilds), held[guilds]);
    }
    x.write(1);
    int[] there = {GAP, 2, -1, 1, 0, 2, -1, 1, GAP};
    for (int guilds = 0; guilds <= 8; guilds++) {
      C.due("of a CHARTER, held(" + guilds + ")", x.held(guilds), there[guilds]);
    }
    x = Check.made(game("x x", "0 1", p(1, 1), p(4, 0), p(2, 2), p(3, -5)));
    // From each ROW by itself, whichever was asked for before.
    GuildCharter own = Check.made(OWN.replace("c 50 50 51", "c 50 50 52"));
    C.due("from none", own.held(7), 6);
    for (int word = 0; word < 3; word++) {
      own.write(word);
      C.due("from " + word, own.held(7), word == 2 ? 6 : 5);
      own.write(word);
      C.due("from " + word + " " + word, own.held(7), word == 2 ? 6 : 4);
      own.write(word);
      C.due("from " + word + " " + word + " " + word, own.held(7), word == 2 ? 6 : 3);
      own.undo();
      C.due("and back", own.held(7), word == 2 ? 6 : 4);
      own.wipe();
    }
    C.due("from none again", own.held(7), 6);
    C.due("0 is sure of 2 by b", x.held(1), 2);
    C.due("1 is sure of 1 behind a", x.held(2), 1);
    C.due("both are sure of 4", x.held(3), 4);
  }

  private static void heldOfWhatCanGoOnTest() {
    C.sentence("2: (of what can GO ON)");
    GuildCharter x = Check.made("word a 60 50 50; word b 0 50 50; rule s = a a or a b b or b; length 2;");
    C.due("the others can't write b", x.held(1), 20);
    x = Check.made("word a 60 50 50; word b 0 50 50; rule s = a a or a b; length 2;");
    C.due("the others can", x.held(1), -40);
  }

  private static void shares(String what, GuildCharter x, int... parts) {
    for (int guild = 0; guild < 3; guild++) {
      C.due(what + ", share(" + guild + ", 0)", x.share(guild, 0), parts[2 * guild]);
      C.due(what + ", share(" + guild + ", 1)", x.share(guild, 1), parts[2 * guild + 1]);
    }
  }

  private static GuildCharter chosenByTwo(int... worths) {
    return Check.made("word a 50 50 50; word b " + (50 + worths[0]) + " " + (50 + worths[1]) + " " + (50 + worths[2])
        + "; rule s = a or b; length 1; turns 2;");
  }

  private static void shareTest() {
    C.sentence("2: SHARE .. (0 of none): over all six orders .. more than by those ahead alone, together; a sixth of that");
    // held: 0: 0, 1: 0, 2: 5, 01: 0, 02: 5, 12: 5, 012: 5.
    shares("whole ones", chosenByTwo(0, 0, 5), 0, 1, 0, 1, 5, 1);
    // held: 0: 0, 1: 0, 2: 0, 01: 0, 02: 1, 12: 0, 012: 1.
    shares("halves", chosenByTwo(1, 0, 0), 1, 2, 0, 1, 1, 2);
    // held: 0: 0, 1: -1, 2: 0, 01: 0, 02: 1, 12: 0, 012: 0. So 0 + 1 + 1 + 0, -2 + 0 + 0 - 2, 0 + 1 + 1 + 0.
    shares("thirds", chosenByTwo(1, -1, 0), 1, 3, -2, 3, 1, 3);
    // held: 0: 0, 1: -1, 2: 0, 01: 0, 02: 2, 12: 0, 012: 1. So 0 + 1 + 2 + 2, -2 + 0 + 0 - 2, 0 + 2 + 1 + 2.
    shares("sixths", chosenByTwo(2, -1, 0), 5, 6, -2, 3, 5, 6);
    // held: 0: -2, 1: 0, 2: 0, 01: -1, 02: 0, 12: 1, 012: 0. So -4 - 1 + 0 - 2, 0 + 1 + 1 + 0, 0 + 2 + 1 + 2.
    shares("sixths below 0", chosenByTwo(-2, 1, 0), -7, 6, 1, 3, 5, 6);
    GuildCharter x = chosenByTwo(2, -1, 0);
    x.write(1);
    shares("of a CHARTER what it MEANS", x, 2, 1, -1, 1, 0, 1);
    x.doubtful();
    x.struck(0);
    shares("once more", x, 2, 1, -1, 1, 0, 1);
    x = Check.made("word z 50 50 50; word a 50 50 50; word b 52 49 50; rule s = a or b; length 1; turns 2;");
    x.write(2);
    x.wipe();
    x.doubtful();
    shares("0 of none, whatever was asked before", x, 5, 6, -2, 3, 5, 6);
  }

  private static void swapMoreToBothTest() {
    C.sentence("2: SWAP: .. if these change about, the CHARTER WRITTEN MEANS more to both");
    // As told a a is written, changed about b b, which is worth 3 to each.
    for (int worth = 1; worth <= 5; worth++) {
      GuildCharter x = Check.made(game("x x", "0 1", p(worth, 0), p(5, -1), p(-1, 5), p(3, 3)));
      C.due("a a worth " + worth + " to guild 0", x.written(0), worth);
      C.due("3 is more than " + worth + " to guild 0", x.swap(), worth < 3 ? 1 : NONE);
      x = Check.made(game("x x", "0 1", p(0, worth), p(5, -1), p(-1, 5), p(3, 3)));
      C.due("a a worth " + worth + " to guild 1", x.written(1), worth);
      C.due("3 is more than " + worth + " to guild 1", x.swap(), worth < 3 ? 1 : NONE);
    }
  }

  private static void swapOfTwoGuildsTest() {
    C.sentence("2: SWAP: two PLACES .. whose turns are of two GUILDS");
    String[] turns = {"0 1", "1 0", "0 0", "1 1", "0 2", "2 1"};
    int[] due = {1, NONE, NONE, NONE, NONE, NONE};
    for (int i = 0; i < turns.length; i++) {
      GuildCharter x = Check.made(game("x x", turns[i], p(0, 0), p(5, -1), p(-1, 5), p(3, 3)));
      C.due("turns " + turns[i], x.swap(), due[i]);
    }
    GuildCharter x = Check.made(game("x x", "2", p(0, 0), p(5, -1), p(-1, 5), p(3, 3)));
    x.sell(0, 0);
    C.due("one SOLD", x.swap(), NONE);
    x.sell(1, 1);
    C.due("both SOLD", x.swap(), 1);
  }

  private static void swapNotWrittenYetTest() {
    C.sentence("2: SWAP: two PLACES that are not written yet");
    GuildCharter x = Check.made(game("z x x", "2 0 1", p(0, 0), p(5, -1), p(-1, 5), p(3, 3)));
    C.due("none written", x.swap(), 12);
    x.write(2);
    C.due("z written", x.swap(), 12);
    x.write(0);
    C.due("one of the two written", x.swap(), NONE);
    x.write(0);
    C.due("both written", x.swap(), NONE);
  }

  private static void swapFirstTwoTest() {
    C.sentence("2: SWAP: .. the first two PLACES (the first counts most)");
    int[] aa = p(0, 0);
    int[] ab = p(5, -1);
    int[] ba = p(-1, 5);
    int[] bb = p(3, 3);
    C.due("0 and 1 of 3", Check.made(game("x x z", "0 1 1", aa, ab, ba, bb)).swap(), 1);
    // The second WORD only says which was the first.
    C.due("0 and 2 of 3", Check.made("word a 50 50 50; word b 50 50 50; word m 50 50 50; word n 50 50 50; pair m b 55 49 50;"
        + "pair n a 49 55 50; pair n b 53 53 50; rule s = a m x or b n x; rule x = a or b; turns 0 1 1;").swap(), 2);
    C.due("1 and 2 of 3", Check.made(game("z x x", "0 0 1", aa, ab, ba, bb)).swap(), 12);
    // Two games with z between, a a in each as told (alts have four NAMES at most).
    String two = game("x x z x", "0 1 2 0 1", aa, ab, ba, bb).replace("rule s = x x z x;", "rule s = y z y; rule y = x x;")
        .replace("length 4", "length 5");
    GuildCharter x = Check.made(two);
    C.due("of many the first", x.swap(), 1);
    x.write(0);
    x.write(0);
    C.due("the last two", x.swap(), 34);
    x.wipe();
    x.sell(0, 1);
    x.sell(1, 0);
    // b b and a a: 3 to each. With 0 and 3 changed about a b and b a: 4 to each; 1 and 4, 3 and 4 would do, too.
    C.due("3 to each", x.written(0), 3);
    C.due("0 and 3", x.swap(), 3);
    x.write(1);
    C.due("1 and 4", x.swap(), 14);
  }

  private static void bribeTest() {
    C.sentence("2: BRIBE .. the least that the GUILD whose turn it is must have more (0 .. 99)");
    for (int less : new int[] {0, 1, 2, 50, 97, 98, 99}) {
      String two = "word a " + (99 - less) + " 50 50; word b 99 50 50; rule s = a or b; length 1;";
      C.due("the first WORD, " + less + " less", Check.made(two).bribe(0, 0), less);
      String other = "word a 99 50 50; word b " + (99 - less) + " 50 50; rule s = a or b; length 1;";
      C.due("another WORD, " + less + " less", Check.made(other).bribe(0, 1), less < 99 ? less + 1 : NONE);
      C.due("what he writes anyway", Check.made(other).bribe(0, 0), 0);
    }
    GuildCharter x = Check.made("word a 99 50 50; word b 0 50 50; rule s = a or b; length 1; turns 1;");
    C.due("to another GUILD", x.bribe(0, 1), 1);
    x.sell(0, 0);
    C.due("SOLD to him who minds", x.bribe(0, 1), NONE);
    C.due("what is WRITTEN is not bribed", x.written(0), 49);
  }

  private static void bribeNotEnoughTest() {
    C.sentence("2: BRIBE .. none, if that is not enough");
    GuildCharter x = Check.made(game("x x", "0 1", p(0, 0), p(0, 0), p(-50, 0), p(-50, 0)));
    C.due("b first costs 50", x.bribe(0, 1), 51);
    // b costs him 99, or 49 and 50.
    x = Check.made("word a 99 50 50; word b 0 50 50; rule s = a or b; length 1;");
    C.due("99 is not more than 99", x.bribe(0, 1), NONE);
    x = Check.made("word a 98 50 50; word b 0 50 50; rule s = a or b; length 1;");
    C.due("99 is more than 98", x.bribe(0, 1), 99);
    x = Check.made("word a 50 50 50; word b 25 50 50; pair b b 26 50 50; rule s = a a or b b; length 2;");
    C.due("75 by two WORDS", x.bribe(0, 1), 75);
    x = Check.made("word a 50 50 50; word b 13 50 50; pair b b 26 50 50; rule s = a a or b b; length 2;");
    C.due("99 by two WORDS", x.bribe(0, 1), 99);
    x = Check.made("word a 50 50 50; word b 12 50 50; pair b b 27 50 50; rule s = a a or b b; length 2;");
    C.due("100 by two WORDS", x.bribe(0, 1), NONE);
    C.due("of no CHARTER", Check.made("word a 50 50 50; word b 50 50 50; rule s = a; length 1;").bribe(0, 1), NONE);
  }

  private static void bribeKnownToAllTest() {
    C.sentence("2: BRIBE .. so that the CHARTER WRITTEN (this counted by that GUILD, as known to all) has it");
    GuildCharter x = Check.made(game("x x", "1 0", p(0, 1), p(-3, 0), p(0, -5), p(-2, 10)));
    C.due("a a is WRITTEN", x.written(1), 1);
    // Behind b guild 0 writes b for 3, as 2 would make it like a; behind a he would want 4.
    C.due("3 for the b at the end", x.bribe(1, 1), 3);
    C.due("WRITTEN without it", x.written(1), 1);
    lying(x, 0, 0);
    C.due("guild 1 wants 7 for his b", x.bribe(0, 1), 7);
    C.due("0 for the a at the end", x.bribe(1, 0), 0);
    // One GUILD has both turns: what he gets for the second he counts at the first.
    x = Check.made(game("x x", "0", p(0, 0), p(-9, 0), p(-9, 0), p(-4, 0)));
    C.due("5 for the second b", x.bribe(1, 1), 5);
    C.due("5 for the first b", x.bribe(0, 1), 5);
  }

  // ---- part 2: RULES

  private static void ofUseTest() {
    C.sentence("2: A RULE is OF USE, if some ROW (of any length) is READ by it, and RULE 0 comes to it by alts (RULE 0 itself, too)");
    String word = "word a 50 50 50;";
    C.due("RULE 0", Check.made(word + "rule s = a;").used(), 1);
    C.due("RULE 0, which READS none", Check.made(word + "rule s = s a;").used(), 0);
    C.due("one it does not come to", Check.made(word + "rule s = a; rule t = a;").used(), 1);
    C.due("one that comes to it", Check.made(word + "rule s = a; rule t = s s;").used(), 1);
    C.due("one it comes to", Check.made(word + "rule s = t; rule t = a;").used(), 3);
    C.due("some it does not come to", Check.made(word + "rule s = a; rule t = u u; rule u = a;").used(), 1);
    C.due("not by way of others it does not come to", Check.made(word + "rule s = v; rule t = u u; rule u = a; rule v = a;").used(), 9);
    C.due("none of the alt behind", Check.made(word + "rule s = a a a a or u v; rule u = a; rule v = v v;").used(), 1);
    C.due("by an alt of which one READS none", Check.made(word + "rule s = t u or a; rule t = a; rule u = u u;").used(), 1);
    C.due("by another alt", Check.made(word + "rule s = t u or a t; rule t = a; rule u = u u;").used(), 3);
    C.due("of any length", Check.made(word + "rule s = t t t t or a; rule t = u u u u; rule u = a a a a; length 1;").used(), 7);
    String back = "rule s = z; rule t = a; rule u = t t; rule v = u u; rule w = v v; rule x = w w; rule y = x x; rule z = y y;";
    C.due("by all the others, backwards", Check.made(word + back).used(), 255);
    C.due("by all the others", Check.made(word + "rule s = t; rule t = u; rule u = v; rule v = w; rule w = x; rule x = y; rule y = z; rule z = a;").used(), 255);
    C.due("all but the last", Check.made(word + back.replace("rule z = y y", "rule z = a y or a").replace("rule u = t t", "rule u = u t or a")).used(), 255);
    C.due("all but the second", Check.made(word + back.replace("rule u = t t", "rule u = a")).used(), 253);
    GuildCharter x = Check.made(word + back);
    Check.port(x, word + "rule s = a;");
    C.due("of the text told last", x.used(), 1);
    Check.port(x, "");
    C.due("no RULES", x.used(), 0);
  }

  private static void shortestTest() {
    C.sentence("2: SHORTEST of a RULE: the fewest WORDS of a ROW that it READS");
    String word = "word a 50 50 50;";
    C.due("1", Check.made(word + "rule s = a;").shortest(0), 1);
    C.due("2 of 2 and 3", Check.made(word + "rule s = a a a or a a;").shortest(0), 2);
    C.due("1 of 4 and 1", Check.made(word + "rule s = a a a a or s s or a;").shortest(0), 1);
    C.due("none", Check.made(word + "rule s = a s;").shortest(0), 0);
    String lines = "";
    for (char name = 'a'; name <= 'h'; name++) {
      lines += "word " + name + " 50 50 50;";
      C.due("none, with WORDS up to " + name, Check.made(lines + "rule s = s s;").shortest(0), 0);
      C.due("2, with WORDS up to " + name, Check.made(lines + "rule s = " + name + " a;").shortest(0), 2);
      C.due("OF USE, with WORDS up to " + name, Check.made(lines + "rule s = t " + name + "; rule t = t t;").used(), 0);
    }
    C.due("longer than a CHARTER", Check.made(word + "rule s = t t t t; rule t = a a; length 1;").shortest(0), 8);
    GuildCharter x = Check.made(word + "rule s = z z z z; rule t = a a a a; rule u = t t t t; rule v = u u u u; rule w = v v v v;"
        + "rule x = w w w w; rule y = x x x x; rule z = y y y y;");
    int[] sizes = {65536, 4, 16, 64, 256, 1024, 4096, 16384, NONE};
    for (int rule = 0; rule <= 8; rule++) {
      C.due("the longest, shortest(" + rule + ")", x.shortest(rule), sizes[rule]);
    }
    x = Check.made(word + "rule s = t t t t or z a; rule t = u u or a a a; rule u = v or a a; rule v = w w; rule w = x; rule x = y; rule y = z; rule z = a;");
    int[] short8 = {2, 3, 2, 2, 1, 1, 1, 1};
    for (int rule = 0; rule < 8; rule++) {
      C.due("by way of others, shortest(" + rule + ")", x.shortest(rule), short8[rule]);
    }
  }

  private static void doubtfulTest() {
    C.sentence("2: DOUBTFUL: the first CHARTER .. that has more than one of READINGS");
    String words = "word a 50 50 50; word b 50 50 50; length 2;";
    GuildCharter x = Check.made(words + "rule s = a a or a b or b a or b b;");
    C.due("one each", x.doubtful(), 0);
    lying(x);
    String[] all = {"a a", "a b", "b a", "b b"};
    for (int first = 0; first < 4; first++) {
      String alts = "a a or a b or b a or b b";
      for (int more = 3; more >= first; more--) {
        alts += (" or " + all[more]).repeat(more + 1);
      }
      x = Check.made(words + "rule s = " + alts + ";");
      C.due("the first is " + all[first], x.doubtful(), first + 2);
      lying(x, first / 2, first % 2);
      x.write(1);
      x.hole(0, 1);
      x.sell(1, 2);
      C.due("whatever is in earnest", x.doubtful(), first + 2);
      lying(x, first / 2, first % 2);
    }
    x = Check.made("word a 50 50 50; rule s = a a or a a or a; length 1;");
    C.due("a longer SENTENCE has two", x.doubtful(), 0);
    lying(x);
    x = Check.made("word a 50 50 50; rule s = a a or a or a; length 1;");
    C.due("a CHARTER has two", x.doubtful(), 2);
    lying(x, 0);
  }

  // ---- part 2: SPENT

  /**
   * 2,998 rows of five WORDS and what is ahead of them, and so many more; c is worth 10 to guild 1, f
   * to guild 0, and f behind c 5 to guild 1.
   */
  private static String rows(String start, int more, String rest) {
    StringBuilder text = new StringBuilder();
    for (char word = 'a'; word <= 'h'; word++) {
      text.append("word ").append(word).append(word == 'f' ? " 60" : " 50").append(word == 'c' ? " 60" : " 50").append(" 50;");
    }
    text.append("pair c f 50 55 50;").append(start);
    // Behind a and b 1 + 6 + 30 + 150 + 750 rows each, behind c 1 + 6 + 36 + 180 + 900, and the one ahead.
    text.append("rule r = a t or b t or c u");
    String[] others = {"a p", "b p", "c p"};
    for (int i = 0; i < more; i++) {
      text.append(" or ").append(others[i]);
    }
    text.append("; rule p = a a a g; rule t = y z z z; rule u = y y z z; rule y = z or f; rule z = a or b or c or d or e;");
    return text.append(rest).toString();
  }

  private static void notSpent(String what, GuildCharter x, int from) {
    C.due(what + ", written(0)", x.written(0), 0);
    C.due(what + ", about(11)", x.about(11), from + 5);
    C.due(what + ", lies(1)", x.lies(from + 1), 2);
    C.due(what + ", written(1)", x.written(1), 20);
    C.due(what + ", held(1)", x.held(1), 0);
    C.due(what + ", held(2)", x.held(2), 20);
    C.due(what + ", held(3)", x.held(3), 45);
    C.due(what + ", held(5)", x.held(5), 10);
    C.due(what + ", held(6)", x.held(6), 30);
    C.due(what + ", held(7)", x.held(7), 55);
    C.due(what + ", share(0, 0)", x.share(0, 0), 85);
    C.due(what + ", share(0, 1)", x.share(0, 1), 6);
    C.due(what + ", share(2, 0)", x.share(2, 0), 20);
    C.due(what + ", share(2, 1)", x.share(2, 1), 3);
    C.due(what + ", swap()", x.swap(), 10 * from + from + 1);
    C.due(what + ", bribe", x.bribe(from, 1), 1);
  }

  private static void spent(String what, GuildCharter x, int from) {
    x.best(0);
    C.due(what + ", written(0)", x.written(0), GAP);
    C.due(what + ", about(11)", x.about(11), 0);
    C.due(what + ", held(2)", x.held(2), GAP);
    C.due(what + ", held(7)", x.held(7), GAP);
    C.due(what + ", share(0, 0)", x.share(0, 0), GAP);
    C.due(what + ", share(2, 1)", x.share(2, 1), GAP);
    C.due(what + ", swap()", x.swap(), NONE);
    C.due(what + ", bribe", x.bribe(from, 1), NONE);
    C.due(what + ", bribe for no WORD", x.bribe(from, 8), CANNOT);
    C.due(what + ", next()", x.next(), 7);
  }

  private static void spentFromTheEmptyRowTest() {
    C.sentence("2: (SPENT, if more than 3,000 ROWS that can GO ON, or are CHARTERS, begin with the one to begin with, itself too");
    for (int more = 0; more <= 3; more++) {
      GuildCharter x = Check.made(rows("", more, "length 5;"));
      String what = (2998 + more) + " rows";
      boolean over = more == 3;
      C.due(what + ", fit()", x.fit(), over ? CANNOT : 2400 + more);
      C.due(what + ", best(2)", x.best(2), over ? GAP : 0);
      C.due(what + ", about(11)", x.about(11), over ? 0 : 5);
      C.due(what + ", doubtful()", x.doubtful(), over ? CANNOT : 0);
      C.due(what + ", lots(2)", x.lots(2), over ? GAP : 0);
      C.due(what + ", orders(0)", x.orders(0), over ? CANNOT : 63);
      if (over) {
        spent(what, x, 0);
      } else {
        notSpent(what, x, 0);
      }
    }
  }

  private static void spentFromARowTest() {
    C.sentence("2: (SPENT, .. begin with the one to begin with");
    // One WORD ahead: from the empty ROW it is one row more, from h on as many as before.
    for (int more = 1; more <= 3; more++) {
      GuildCharter x = Check.made(rows("rule s = h r;", more, "length 6; turns 2 0 1 2 0 1;"));
      String what = (2998 + more) + " rows behind h";
      boolean over = more >= 2;
      C.due(what + ", written(0) from none", x.written(0), over ? GAP : 0);
      C.due(what + ", held(7) from none", x.held(7), over ? GAP : 55);
      C.due(what + ", swap() from none", x.swap(), over ? NONE : 12);
      x.write(7);
      if (more == 3) {
        spent(what, x, 1);
      } else {
        notSpent(what, x, 1);
      }
      C.due(what + ", doubtful() begins with none", x.doubtful(), over ? CANNOT : 0);
      C.due(what + ", lots(2) begins with none", x.lots(2), over ? GAP : 0);
      C.due(what + ", orders(0) begins with none", x.orders(0), over ? CANNOT : 63);
      x.write(2);
      C.due(what + ", one WORD on", x.held(7), 55);
      x.undo();
      C.due(what + ", and back", x.held(7), more == 3 ? GAP : 55);
      x.undo();
      C.due(what + ", and back to none", x.held(7), over ? GAP : 55);
    }
  }

  private static void spentForHolesTest() {
    C.sentence("2: (.. for HOLES: those that are as told, as far as they go.)");
    for (int more = 1; more <= 3; more++) {
      // Twice as many, with h or g ahead of them.
      GuildCharter x = Check.made(rows("rule s = h r or g r;", more, "length 6;"));
      String what = (2998 + more) + " rows behind h";
      boolean over = more >= 2;
      C.due(what + ", fit() of none told", x.fit(), CANNOT);
      C.due(what + ", best(2) of none told", x.best(2), GAP);
      x.hole(0, 7);
      C.due(what + ", fit() with h", x.fit(), over ? CANNOT : 2400 + more);
      C.due(what + ", best(2) with h", x.best(2), over ? GAP : 0);
      C.due(what + ", about(11)", x.about(11), over ? 0 : 6);
      x.hole(0, NONE);
      C.due(what + ", fit() of none told again", x.fit(), CANNOT);
      // The last PLACE told: rows of fewer WORDS all count, 1 + 2 * (1 + 3 + 18 + 96 + 480) of them.
      x.hole(5, 6);
      C.due(what + ", fit() with g at the end", x.fit(), 2 * more);
      x.hole(5, 7);
      C.due(what + ", fit() with h at the end", x.fit(), 0);
      C.due(what + ", best(2) with h at the end", x.best(2), GAP);
    }
  }

  // ---- part 3: ACTS

  private static void emptyAtFirstTest() {
    C.sentence("3: In earnest a ROW is written, empty at first");
    GuildCharter x = Check.made(OWN);
    C.due("about(5)", x.about(5), 0);
    C.due("word(0)", x.word(0), NONE);
    C.due("means(0)", x.means(0), 0);
    C.due("readings()", x.readings(), 0);
    C.due("about(6)", x.about(6), 0);
    C.due("about(7)", x.about(7), 0);
    C.due("wipe()", x.wipe(), 0);
    C.due("image(0)", x.image(0), 0);
  }

  private static void wordsComeTest() {
    C.sentence("3: a WORD comes (by whose turn it is: only so that it can GO ON, or is a CHARTER)");
    GuildCharter x = Check.made("word a 50 50 50; word b 50 50 50; rule s = a b a or b b;");
    C.due("b can't", x.write(1), NONE);
    C.due("a can", x.write(0), 1);
    C.due("a can't behind it", x.write(0), NONE);
    C.due("b can", x.write(1), 2);
    C.due("b can't be the CHARTER", x.write(1), NONE);
    C.due("about(6) so far", x.about(6), 2);
    C.due("a can", x.write(0), 3);
    C.due("nothing behind a CHARTER", x.write(0), NONE);
    C.due("nothing behind a CHARTER", x.write(1), NONE);
    C.due("about(6)", x.about(6), 3);
  }

  private static void turnsSoldTest() {
    C.sentence("3: the turn of a PLACE that is not written yet is SOLD to a GUILD (for this ROW)");
    for (int size = 0; size <= 3; size++) {
      GuildCharter x = Check.made(OWN);
      for (int i = 0; i < size; i++) {
        x.write(0);
      }
      for (int place = -1; place <= 3; place++) {
        boolean can = place >= size && place < 3;
        C.due(size + " written, sell(" + place + ", 1)", x.sell(place, 1), can ? place % 3 : NONE);
        C.due(size + " written, turn(" + place + ")", x.turn(place), can ? 1 : place >= 0 && place < 3 ? place : NONE);
      }
      C.due("about(6)", x.about(6), 3);
    }
    GuildCharter x = Check.made(OWN);
    x.sell(0, 2);
    x.write(2);
    x.wipe();
    C.due("for another ROW it is not", x.turn(0), 0);
    C.due("written(0)", x.written(0), 1);
    x.sell(0, 2);
    x.sell(0, 0);
    C.due("SOLD back", x.turn(0), 0);
    C.due("which are two ACTS", x.about(6), 2);
  }

  private static void undoTest() {
    C.sentence("3: UNDO takes back the latest ACT that was not");
    GuildCharter x = Check.made(OWN);
    C.due("none", x.undo(), false);
    x.sell(1, 2);
    x.write(1);
    x.sell(1, 0);
    C.due("the sale", x.undo(), true);
    C.due("to whom it was SOLD before", x.turn(1), 2);
    C.due("one WORD still", x.about(5), 1);
    C.due("the WORD", x.undo(), true);
    C.due("no WORD", x.about(5), 0);
    C.due("SOLD still", x.turn(1), 2);
    C.due("the first sale", x.undo(), true);
    C.due("as told", x.turn(1), 1);
    C.due("no more", x.undo(), false);
    C.due("about(6)", x.about(6), 0);
    C.due("about(7)", x.about(7), 3);
  }

  private static void redoTest() {
    C.sentence("3: REDO does that again which was taken back last (till another ACT)");
    GuildCharter x = Check.made(OWN);
    C.due("none", x.redo(), false);
    x.write(1);
    C.due("none was taken back", x.redo(), false);
    x.sell(2, 0);
    x.undo();
    x.undo();
    C.due("the WORD", x.redo(), true);
    C.due("word(0)", x.word(0), 1);
    C.due("about(7)", x.about(7), 1);
    C.due("turn(2)", x.turn(2), 2);
    C.due("the sale", x.redo(), true);
    C.due("turn(2)", x.turn(2), 0);
    C.due("no more", x.redo(), false);
    x.undo();
    x.undo();
    C.due("what can't be is no ACT", x.write(3), NONE);
    C.due("what can't be is no ACT", x.sell(3, 0), NONE);
    C.due("nor is an image", x.image(0), 0);
    C.due("nor a question", x.written(0), 1);
    C.due("about(7)", x.about(7), 2);
    C.due("the WORD again", x.redo(), true);
    x.sell(1, 1);
    C.due("behind another ACT", x.redo(), false);
    C.due("about(7)", x.about(7), 0);
    x.undo();
    C.due("that ACT again", x.redo(), true);
    x.undo();
    x.write(0);
    C.due("behind a WORD", x.redo(), false);
    C.due("about(6)", x.about(6), 2);
  }

  private static void mostActsTest() {
    C.sentence("3: 40 at most are kept, the oldest go");
    for (int acts = 38; acts <= 43; acts++) {
      GuildCharter x = Check.made(OWN);
      for (int act = 1; act <= acts; act++) {
        x.sell(0, act % 3);
      }
      int kept = Math.min(acts, 40);
      C.due(acts + " ACTS, about(6)", x.about(6), kept);
      for (int act = acts; act > acts - kept; act--) {
        C.due(acts + " ACTS, ahead of ACT " + act, x.undo(), true);
        C.due(acts + " ACTS, ahead of ACT " + act + ", turn(0)", x.turn(0), (act - 1) % 3);
      }
      C.due(acts + " ACTS, no more", x.undo(), false);
      C.due(acts + " ACTS, about(7)", x.about(7), kept);
      for (int act = acts - kept + 1; act <= acts; act++) {
        C.due(acts + " ACTS, ACT " + act + " again", x.redo(), true);
        C.due(acts + " ACTS, ACT " + act + " again, turn(0)", x.turn(0), act % 3);
      }
      C.due(acts + " ACTS, no more again", x.redo(), false);
    }
    GuildCharter x = Check.made(OWN);
    for (int act = 1; act <= 40; act++) {
      x.sell(0, act % 3);
    }
    x.undo();
    x.undo();
    C.due("38 and 2", x.about(7), 2);
    x.sell(1, 0);
    C.due("39", x.about(6), 39);
    x.write(0);
    C.due("40", x.about(6), 40);
    x.write(0);
    C.due("40 of 41", x.about(6), 40);
    for (int act = 0; act < 40; act++) {
      C.due("taken back", x.undo(), true);
    }
    C.due("all but one", x.undo(), false);
    C.due("which was the first", x.turn(0), 1);
    // Of all sorts, so that the oldest go as a whole: sales of PLACES 1 and 2 by turns with WORDS at PLACE 0.
    x = Check.made(OWN);
    int[][] turns = new int[50][];
    for (int act = 1; act <= 45; act++) {
      turns[act] = new int[] {x.turn(0), x.turn(1), x.turn(2), x.about(5)};
      if (act == 11 || act == 44) {
        x.write(act % 3);
      } else {
        x.sell(act < 44 ? 1 + act % 2 : 2, act / 2 % 3);
      }
    }
    for (int act = 45; act > 5; act--) {
      C.due("ACT " + act + " taken back", x.undo(), true);
      for (int place = 0; place < 3; place++) {
        C.due("ahead of ACT " + act + ", turn(" + place + ")", x.turn(place), turns[act][place]);
      }
      C.due("ahead of ACT " + act + ", about(5)", x.about(5), turns[act][3]);
    }
    C.due("ACT 5 is not kept", x.undo(), false);
  }

  private static void wipedTest() {
    C.sentence("3: WIPED, the ROW is empty, no turn is SOLD, no ACT is kept");
    for (int size = 0; size <= 3; size++) {
      GuildCharter x = Check.made(OWN);
      x.sell(0, 2);
      x.sell(2, 0);
      for (int i = 0; i < size; i++) {
        x.write(1);
      }
      x.undo();
      x.redo();
      x.write(0);
      x.undo();
      int before = x.about(5);
      C.due("wipe()", x.wipe(), before);
      C.due("about(5)", x.about(5), 0);
      C.due("word(0)", x.word(0), NONE);
      for (int place = 0; place < 3; place++) {
        C.due("turn(" + place + ")", x.turn(place), place);
      }
      C.due("about(6)", x.about(6), 0);
      C.due("about(7)", x.about(7), 0);
      C.due("undo()", x.undo(), false);
      C.due("redo()", x.redo(), false);
      C.due("wipe() again", x.wipe(), 0);
      C.due("write(2)", x.write(2), 1);
    }
  }

  // ---- part 3: lots, holes, what is struck

  private static void lotsTest() {
    C.sentence("3: LOTS: turns by all six orders of GUILDS .., again and again (nothing SOLD)");
    for (int length = 1; length <= 6; length++) {
      GuildCharter x = Check.made(OWN + "length " + length + "; turns 1;");
      for (int guild = 0; guild < 3; guild++) {
        // At each PLACE each guild writes in two of the six.
        C.due("length " + length + ", lots(" + guild + ")", x.lots(guild), 2 * length);
      }
      x.sell(length - 1, 2);
      x.write(0);
      C.due("length " + length + ", SOLD and written, lots(2)", x.lots(2), 2 * length);
      C.due("length " + length + ", lots(3)", x.lots(3), GAP);
    }
    GuildCharter x = Check.made(OWN);
    C.due("of one text", x.lots(0), 6);
    Check.port(x, OWN.replace("a 51", "a 52"));
    C.due("of the next", x.lots(0), 12);
    Check.port(x, OWN.replace("a 51", "a 49"));
    C.due("of a third", x.lots(0), 0);
    Check.port(x, "");
    C.due("of none", x.lots(0), GAP);
  }

  private static void holesTest() {
    C.sentence("3: HOLES: a ROW of length PLACES, each a WORD or a hole: CHARTERS that FIT it: how many");
    for (int length = 1; length <= 4; length++) {
      GuildCharter x = Check.made(OWN + "length " + length + ";");
      int count = 1;
      for (int place = 0; place < length; place++) {
        count *= 3;
      }
      C.due("all holes", x.fit(), count);
      for (int place = 0; place < length; place++) {
        C.due("hole(" + place + ", 2)", x.hole(place, 2), true);
        count /= 3;
        C.due("fit()", x.fit(), count);
      }
      C.due("none behind", x.hole(length, 2), false);
      C.due("best(2)", x.best(2), length);
      for (int place = length - 1; place >= 0; place--) {
        x.hole(place, NONE);
        count *= 3;
        C.due("a hole again, fit()", x.fit(), count);
      }
    }
    GuildCharter x = Check.made("word a 50 50 50; word b 50 50 50; rule s = a b a or b b b;");
    C.due("two", x.fit(), 2);
    x.hole(1, 0);
    C.due("none", x.fit(), 0);
    C.due("none, best(0)", x.best(0), GAP);
    x.hole(1, 1);
    C.due("two again", x.fit(), 2);
    x.hole(2, 0);
    C.due("one", x.fit(), 1);
    x.write(1);
    C.due("whatever is in earnest", x.fit(), 1);
  }

  private static void likeHolesTest() {
    C.sentence("3: the one that MEANS most to a GUILD (of like ones the first, by WORDS, the first PLACE counts most)");
    GuildCharter x = Check.made("word a 50 50 50; word b 50 50 50; rule s = b b or b a or a b; length 2;");
    C.due("like ones", x.best(0), 0);
    lying(x, 0, 1);
    x.hole(0, 1);
    C.due("like ones with b", x.best(0), 0);
    lying(x, 1, 0);
    x = Check.made("word a 50 50 50; word b 50 50 50; pair b a 51 50 50; rule s = b b or b a or a b; length 2;");
    C.due("one more", x.best(0), 1);
    lying(x, 1, 0);
    C.due("to another", x.best(1), 0);
    lying(x, 0, 1);
    x = Check.made("word a 0 50 50; pair a a 0 50 50; rule s = a or a s; length 6;");
    C.due("the least that can be", x.best(0), -550);
    lying(x, 0, 0, 0, 0, 0, 0);
  }

  private static void struckTest() {
    C.sentence("3: STRUCK from the ROW in earnest (if it is a SENTENCE): a PLACE whose WORD goes, so that it is a SENTENCE still");
    GuildCharter x = Check.made("word a 50 50 50; rule s = a or a s; length 6;");
    C.due("of none", x.struck(0), NONE);
    x.write(0);
    C.due("of one", x.struck(0), NONE);
    for (int size = 2; size <= 6; size++) {
      x.write(0);
      C.due("of " + size, x.struck(0), 0);
    }
    String words = "word a 50 50 50; word b 50 50 50; word c 50 50 50;";
    C.due("of no SENTENCE", writing(words + "rule s = a or a b c;", 0, 1).struck(0), NONE);
    C.due("so that it is none", writing(words + "rule s = a b c or b or a;", 0, 1, 2).struck(0), NONE);
    C.due("the first goes", writing(words + "rule s = a b c or b c;", 0, 1, 2).struck(0), 0);
    C.due("the second goes", writing(words + "rule s = a b c or a c;", 0, 1, 2).struck(0), 1);
    C.due("the last goes", writing(words + "rule s = a b c or a b;", 0, 1, 2).struck(0), 2);
    C.due("not two", writing(words + "rule s = a b c or c a or b a;", 0, 1, 2).struck(0), NONE);
    x = writing(words + "rule s = a b c or a b or b;", 0, 1);
    C.due("of a SENTENCE that is no CHARTER", x.struck(0), 0);
    C.due("readings() of it still", x.readings(), 1);
    x.write(2);
    C.due("of a CHARTER", x.struck(0), 2);
    C.due("readings() of it still", x.readings(), 1);
    C.due("the ROW stays", x.about(5), 3);
  }

  private static void struckLikeOnesTest() {
    C.sentence("3: the one by which it MEANS most then to a GUILD; of like ones the first");
    // a b, b c and a c are left; to guild 0 they are worth as told by pairs.
    String text = "word a 50 50 50; word b 50 50 50; word c 50 50 50; rule s = a b c or a b or b c or a c;";
    int[][] worths = {{0, 0, 0, 0}, {1, 0, 0, 2}, {0, 1, 0, 1}, {0, 0, 1, 0}, {1, 0, 1, 0}, {1, 1, 0, 1}, {0, 1, 1, 0}, {-1, -1, -1, 0},
      {-1, -1, 0, 0}, {-1, 0, -1, 1}, {0, -1, -1, 2}};
    for (int[] worth : worths) {
      String pairs = "pair a b " + (50 + worth[0]) + " 50 50; pair a c " + (50 + worth[1]) + " 50 50; pair b c " + (50 + worth[2]) + " 50 50;";
      GuildCharter x = writing(text + pairs, 0, 1, 2);
      C.due("a b " + worth[0] + ", a c " + worth[1] + ", b c " + worth[2], x.struck(0), worth[3]);
      C.due("to another GUILD", x.struck(1), 0);
    }
  }

  // ---- part 4: what was SEEN

  private static void mostSeenTest() {
    C.sentence("4: SEEN ones, 30 at most");
    GuildCharter x = Check.made(OWN);
    for (int i = 0; i < 30; i++) {
      C.due("about(8)", x.about(8), i);
      C.due("seen", x.seen(i % 3, 0, false), i);
    }
    C.due("about(8)", x.about(8), 30);
    C.due("one more", x.seen(0, 0, false), NONE);
    C.due("about(8) still", x.about(8), 30);
    C.due("the last can be untold", x.untell(29), true);
    C.due("there is none behind it", x.untell(30), false);
    C.due("UNTOLD ones are there still", x.seen(0, 0, false), NONE);
    Check.port(x, OWN);
    C.due("none of another text", x.about(8), 0);
    C.due("none of another text", x.untell(0), false);
    C.due("anew", x.seen(0, 0, false), 0);
    C.due("there is none behind it", x.untell(1), false);
    C.due("anew, orders(0)", x.orders(0), 4 + 8 + 16 + 32);
    for (int i = 1; i < 29; i++) {
      x.seen(2, 2, true);
    }
    C.due("about(8)", x.about(8), 29);
    C.due("the last counts", x.seen(1, 0, true), 29);
    C.due("orders(0)", x.orders(0), 4);
  }

  private static void timeTest() {
    C.sentence("4: TOLD at a TIME (0 at first, goes on)");
    GuildCharter x = Check.made(OWN);
    C.due("about(9)", x.about(9), 0);
    x.seen(0, 0, true);
    C.due("TOLD at 0, known at -1", x.orders(-1), 63);
    C.due("TOLD at 0, known at 0", x.orders(0), 3);
    C.due("later(1)", x.later(1), 1);
    x.seen(1, 1, true);
    C.due("TOLD at 1, known at 0", x.orders(0), 3);
    C.due("TOLD at 1, known at 1", x.orders(1), 1);
    C.due("TOLD at 1, known at 2", x.orders(2), 1);
    Check.port(x, OWN);
    C.due("goes on with another text", x.about(9), 1);
    x.seen(0, 1, true);
    C.due("TOLD at 1, known at 0", x.orders(0), 63);
    C.due("TOLD at 1, known at 1", x.orders(1), 12);
  }

  private static void untoldTest() {
    C.sentence("4: UNTOLD at a later one or the same");
    GuildCharter x = Check.made(OWN);
    x.later(5);
    x.seen(0, 0, true);
    x.seen(0, 0, true);
    C.due("at the same", x.untell(0), true);
    C.due("again", x.untell(0), false);
    C.due("the other counts", x.orders(5), 3);
    x.later(1);
    C.due("at a later one", x.untell(1), true);
    C.due("again", x.untell(1), false);
    x.later(1);
    C.due("again later", x.untell(1), false);
    C.due("known at 4", x.orders(4), 63);
    C.due("known at 5", x.orders(5), 3);
    C.due("known at 6", x.orders(6), 63);
  }

  private static void asKnownTest() {
    C.sentence("4: As known at k those count that were TOLD at k or before, not UNTOLD at k or before");
    GuildCharter x = Check.made(OWN);
    x.later(10);
    x.seen(0, 2, true);
    x.later(10);
    x.seen(1, 0, true);
    x.later(10);
    x.untell(0);
    x.later(10);
    x.untell(1);
    int[][] known = {{9, 63}, {10, 48}, {11, 48}, {19, 48}, {20, 16}, {21, 16}, {29, 16}, {30, 4 + 16}, {31, 20}, {39, 20}, {40, 63}, {41, 63},
      {Integer.MIN_VALUE, 63}, {Integer.MAX_VALUE, 63}};
    for (int[] one : known) {
      C.due("orders(" + one[0] + ")", x.orders(one[0]), one[1]);
    }
    x.seen(2, 0, true);
    C.due("known at a TIME that is to come", x.orders(Integer.MAX_VALUE), 8 + 32);
  }

  private static void ordersTest() {
    C.sentence("4: ORDERS: which of the six (as bits, by their order) they can have been");
    for (int order = 0; order < 6; order++) {
      GuildCharter x = Check.made(OWN + "length 4;");
      for (int place = 0; place < 4; place++) {
        x.seen(place, ORDERS[order][place % 3], true);
      }
      C.due("what stood in order " + order, x.orders(0), 1 << order);
      x = Check.made(OWN + "length 5;");
      for (int place = 0; place < 5; place++) {
        x.seen(place, ORDERS[order][(place + 1) % 3], false);
        x.seen(place, ORDERS[order][(place + 2) % 3], false);
      }
      C.due("what did not in order " + order, x.orders(0), 1 << order);
      x.seen(3, ORDERS[order][0], false);
      C.due("none can have been", x.orders(0), 0);
    }
    GuildCharter x = Check.made(OWN);
    C.due("any can have been", x.orders(0), 63);
    Check.port(x, "word a 50 50 50; word b 50 50 50; rule s = b or a b; length 1;");
    x.seen(0, 0, true);
    C.due("another text, other CHARTERS", x.orders(0), 0);
    x.untell(0);
    x.seen(0, 1, true);
    C.due("b in all, and what is UNTOLD does not count", x.orders(0), 63);
    Check.port(x, "word a 50 50 50; rule s = a a; length 1;");
    C.due("no CHARTER", x.orders(0), 0);
  }
}
