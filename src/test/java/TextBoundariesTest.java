import java.util.ArrayList;
import java.util.List;

/**
 * Part 1 of the document's terms and promises 2 to 5: each sentence that names a boundary has a test
 * of its own, at the boundary and on both its sides. The sentence stands ahead of its test.
 */
public final class TextBoundariesTest {
  private static final int NONE = GuildCharter.NONE;
  private static final Check C = new Check("TextBoundariesTest");
  private static final String[] KEYS = {"word", "pair", "rule", "or", "length", "turns"};

  public static void main(String[] args) {
    sizeOfATextTest();
    emptyAtFirstTest();
    linesTest();
    lettersTest();
    longestNameTest();
    digitsTest();
    signsTest();
    blanksTest();
    asLongAsCanBeTest();
    noLetterBehindTest();
    wordsForThemselvesTest();
    mostWordsTest();
    worthsTest();
    mostPairsTest();
    pairsToldAheadTest();
    eachTwoOnceTest();
    pairWorthsTest();
    mostRulesTest();
    ruleNamesTest();
    mostAltsTest();
    mostNamesInAnAltTest();
    toldAnywhereTest();
    numberedAsToldTest();
    lengthTest();
    lengthOnceTest();
    turnsTest();
    turnsOnceTest();
    turnsAgainAndAgainTest();
    firstByItsPlaceTest();
    placesFromZeroTest();
    atOnePlaceTheLeastTest();
    whatCanStandWhereTest();
    tooManyAtTheFirstWordTest();
    nameToldAlreadyTest();
    pairToldAlreadyTest();
    numberThatCannotBeTest();
    noSuchWordTest();
    onlyThenSixAndSevenTest();
    noSuchNameTest();
    ownNameAloneTest();
    C.finish();
  }

  // ---- what the tests share

  private static GuildCharter text(String text, int kind, int place) {
    GuildCharter x = new GuildCharter();
    int words = Check.port(x, text);
    C.due("[" + text + "] is refused", words == NONE, kind != 0);
    C.due("[" + text + "] fault(0)", x.fault(0), kind);
    C.due("[" + text + "] fault(1)", x.fault(1), place);
    return x;
  }

  private static GuildCharter good(String text) {
    return text(text, 0, NONE);
  }

  /** So many WORDS: a, b and so on. */
  private static String words(int count) {
    StringBuilder lines = new StringBuilder();
    for (int i = 0; i < count; i++) {
      lines.append("word ").append((char) ('a' + i)).append(" 50 50 50;");
    }
    return lines.toString();
  }

  /** So many pairs of the WORDS a to h. */
  private static String pairs(int count) {
    StringBuilder lines = new StringBuilder();
    for (int i = 0; i < count; i++) {
      lines.append("pair ").append((char) ('a' + i / 8)).append(' ').append((char) ('a' + i % 8)).append(" 50 50 50;");
    }
    return lines.toString();
  }

  /** So many RULES: p, q and so on, each with so many alts. */
  private static String rules(int count, int alts) {
    StringBuilder lines = new StringBuilder();
    for (int i = 0; i < count; i++) {
      lines.append("rule ").append((char) ('p' + i)).append(" = ").append(alts(alts)).append(";");
    }
    return lines.toString();
  }

  private static String alts(int count) {
    return "a" + " or a".repeat(count - 1);
  }

  private static boolean isBlank(int sign) {
    return sign == 32 || sign == 10;
  }

  private static boolean isLetter(int sign) {
    return sign >= 97 && sign <= 122;
  }

  private static boolean isDigit(int sign) {
    return sign >= 48 && sign <= 57;
  }

  private static boolean isSign(int sign) {
    return sign == 59 || sign == 61;
  }

  // ---- how long a text can be

  private static void sizeOfATextTest() {
    C.sentence("1: A PORT is a text of at most 1,600 bytes");
    for (int size = 1598; size <= 1600; size++) {
      GuildCharter x = good(" ".repeat(size - 9) + "length 4;");
      C.due("a length at the end of " + size + " bytes", x.about(4), 4);
      x = good("length 4;" + "\n".repeat(size - 9));
      C.due("blanks up to byte " + size, x.about(4), 4);
      text(" ".repeat(size - 1) + "?", 1, size - 1);
      text(" ".repeat(size - 4) + "word", 2, size);
    }
    GuildCharter x = new GuildCharter();
    Check.tape(x, " ".repeat(1591) + "length 4;");
    C.due("no byte more", x.feed(0x3f3f3f3f, 0, 0, 0, 0), NONE);
    C.due("1,600 bytes", x.about(10), 1600);
    C.due("which are the text", x.port(), 0);
    C.due("as told", x.about(4), 4);
  }

  private static void emptyAtFirstTest() {
    C.sentence("1: (empty at first)");
    GuildCharter x = new GuildCharter();
    for (int what = 0; what < 12; what++) {
      C.due("about(" + what + ")", x.about(what), what == 4 ? 3 : 0);
    }
    C.due("fault(0)", x.fault(0), 0);
    C.due("fault(1)", x.fault(1), NONE);
    C.due("worth(0, 0)", x.worth(0, 0), GuildCharter.GAP);
    C.due("next()", x.next(), 0);
    C.due("shortest(0)", x.shortest(0), NONE);
  }

  private static void linesTest() {
    C.sentence("1: port = {line}");
    C.due("no line", good("").about(0), 0);
    C.due("blanks alone", good(" \n \n").about(0), 0);
    C.due("one line", good("word a 1 2 3;").about(0), 1);
    C.due("lines of all sorts", good("turns 1;length 2;rule s=a;word a 1 2 3;pair a a 1 2 3;").about(1), 1);
    text(";", 2, 0);
    text("word a 1 2 3;;", 2, 13);
  }

  // ---- TOKENS

  private static void lettersTest() {
    C.sentence("1: words (a .. z");
    for (int sign = 0; sign < 256; sign++) {
      String text = "word " + (char) sign + " 1 2 3;";
      if (isLetter(sign)) {
        good(text);
      } else if (isBlank(sign)) {
        text(text, 2, 7);
      } else {
        text(text, isDigit(sign) || isSign(sign) ? 2 : 1, 5);
      }
    }
  }

  private static void longestNameTest() {
    C.sentence("1: words (.., 8 at most)");
    for (int size = 1; size <= 17; size++) {
      String name = "abcdefghijklmnopq".substring(0, size);
      int fault = size <= 8 ? 0 : 1;
      text("word " + name + " 1 2 3;", fault, fault == 0 ? NONE : 5);
      text("word a" + " 1 2 3; rule r" + name.substring(1) + " = a;", fault, fault == 0 ? NONE : 19);
      text(name, size <= 8 ? 2 : 1, 0);
    }
    good("word abcdefgh 1 2 3; pair abcdefgh abcdefgh 1 2 3; rule s = abcdefgh;");
    text("word abcdefgh 1 2 3; pair abcdefghi abcdefgh 1 2 3;", 1, 26);
    text("word abcdefgh 1 2 3; pair abcdefgh abcdefghi 1 2 3;", 1, 35);
    text("word abcdefgh 1 2 3; rule s = abcdefghi;", 1, 30);
    text("word abcdefgh 1 2 3; rule s = abcdefgh abcdefghi;", 1, 39);
    C.due("the last letter counts", good("word abcdefgh 1 2 3; word abcdefgi 1 2 3;").about(0), 2);
    C.due("the first letter counts", good("word abcdefgh 1 2 3; word bbcdefgh 1 2 3;").about(0), 2);
    StringBuilder rows = new StringBuilder();
    for (int size = 1; size <= 8; size++) {
      rows.append("word ").append("a".repeat(size)).append(" 1 2 3;");
    }
    C.due("so does how many there are", good(rows.toString()).about(0), 8);
    GuildCharter x = new GuildCharter();
    Check.tape(x, "word a 1 2 3; rule s = ab");
    x.end(24);
    Check.tape(x, ";");
    C.due("a letter that is not on the tape any more", x.port(), 1);
    C.due("and where they stand", good("word aa 1 2 3; word q 1 2 3; word z 1 2 3; word aj 1 2 3;").about(0), 4);
  }

  private static void digitsTest() {
    C.sentence("1: N (1 to 4 digits)");
    text("length ;", 2, 7);
    for (int size = 1; size <= 9; size++) {
      String number = "0".repeat(size - 1) + "5";
      int fault = size <= 4 ? 0 : 1;
      GuildCharter x = text("length " + number + ";", fault, fault == 0 ? NONE : 7);
      C.due("length " + number, x.about(4), fault == 0 ? 5 : 3);
      text("word a " + number + " 1 1;", fault, fault == 0 ? NONE : 7);
      text("word a 1 1 " + number + ";", fault, fault == 0 ? NONE : 11);
    }
    text("length 9999;", 4, 7);
    text("length 10000;", 1, 7);
    text("turns 0 0000 00000;", 1, 13);
    text("length 4294967299;", 1, 7);
    GuildCharter cut = new GuildCharter();
    Check.tape(cut, "length 33");
    cut.end(8);
    C.due("a digit that is not on the tape any more", cut.port(), NONE);
    C.due("fault(0)", cut.fault(0), 2);
    C.due("fault(1)", cut.fault(1), 8);
    Check.tape(cut, ";");
    C.due("length 3;", cut.port(), 0);
    for (int digit = 0; digit <= 9; digit++) {
      C.due("the digit " + digit, good("word a " + digit + " " + digit + digit + " 1;").worth(0, 1), 11 * digit - 50);
    }
  }

  private static void signsTest() {
    C.sentence("1: signs ; =");
    for (int sign = 0; sign < 256; sign++) {
      String text = "length 5;" + (char) sign;
      boolean token = isLetter(sign) || isDigit(sign) || isSign(sign);
      text(text, isBlank(sign) ? 0 : token ? 2 : 1, isBlank(sign) ? NONE : 9);
      text("length 5" + (char) sign, sign == 59 ? 0 : isLetter(sign) ? 1 : isDigit(sign) ? 4 : sign == 61 || isBlank(sign) ? 2 : 1,
          sign == 59 ? NONE : isLetter(sign) || isDigit(sign) ? 7 : isBlank(sign) ? 9 : 8);
      text("rule s " + (char) sign + " s s;", sign == 61 ? 0 : isBlank(sign) || token ? 2 : 1,
          sign == 61 ? NONE : isBlank(sign) ? 9 : 7);
    }
  }

  private static void blanksTest() {
    C.sentence("1: blanks (32, 10) part them or not");
    for (int sign = 0; sign < 256; sign++) {
      String text = "length" + (char) sign + "5;";
      if (isBlank(sign) || sign == '0') {
        C.due("length " + sign + " 5", good(text).about(4), 5);
      } else if (isLetter(sign)) {
        text(text, 2, 0);
      } else {
        text(text, isDigit(sign) ? 4 : isSign(sign) ? 2 : 1, 6);
      }
    }
    C.due("no blanks", good("word a1 2 3;pair a a1 2 3;rule s=a or a;length6;turns0 1;").about(3), 2);
    C.due("many blanks", good("\n\n word  a\n1 \n2  3 ;\n\npair \n a  a\n\n1 2 3 ;rule s\n=\na\nor  a ;\nlength\n\n6\n; turns 0\n1;\n ").about(3), 2);
    C.due("a letter behind a blank", good("word a 1 2 3 ;word b 1 2 3\n;").about(0), 2);
    text("wor d a 1 2 3;", 2, 0);
    text("word a 1 2 3;rule s=a or\nr;", 6, 25);
    C.due("a blank parts a number", good("turns 0 1;").turn(1), 1);
    C.due("a line end parts a number", good("turns 2\n1;").turn(1), 1);
  }

  private static void asLongAsCanBeTest() {
    C.sentence("1: each is as long as can be");
    text("wordy 1 2 3;", 2, 0);
    text("worda 1 2 3;", 2, 0);
    text("lengthy 3;", 2, 0);
    C.due("01 is one number", good("turns 01;").turn(1), 1);
    C.due("0 1 are two", good("turns 0 1;").turn(0), 0);
    GuildCharter x = good("word ora 1 2 3; word a 1 2 3; rule s = a ora;");
    C.due("ora is one word", x.about(3), 1);
    text("word a 1 2 3; rule s = a ora;", 6, 25);
    C.due("or a are two", good("word a 1 2 3; rule s = a or a;").about(3), 2);
    C.due("12 is one number", good("word a 12 3 4;").worth(0, 0), -38);
    text("word a 1 23;", 2, 11);
  }

  private static void noLetterBehindTest() {
    C.sentence("1: no letter directly behind an N");
    for (char letter = 'a'; letter <= 'z'; letter++) {
      text("length 3" + letter, 1, 7);
    }
    text("length 3length", 1, 7);
    text("length 0003x;", 1, 7);
    text("turns 0 1or;", 1, 8);
    text("word a 1 2 3b;", 1, 11);
    text("word a 1b 2 3;", 1, 7);
    text("7a", 1, 0);
    text("length 3 a;", 2, 9);
    text("length 3\na;", 2, 9);
    text("length 3=a;", 2, 8);
    good("length 3;turns 1;word a 1 2 3;");
    C.due("an N directly behind a letter", good("word a9 2 3;length2;turns2;").worth(0, 0), -41);
    GuildCharter x = new GuildCharter();
    Check.tape(x, "length 3x");
    x.end(8);
    C.due("a letter that is not on the tape any more", x.port(), NONE);
    C.due("fault(0)", x.fault(0), 2);
    C.due("fault(1)", x.fault(1), 8);
  }

  private static void wordsForThemselvesTest() {
    C.sentence("1: Words that stand for themselves here are no NAMES");
    for (String key : KEYS) {
      text("word " + key + " 1 2 3;", 2, 5);
      text("word a 1 2 3; pair " + key + " a 1 2 3;", 2, 19);
      text("word a 1 2 3; pair a " + key + " 1 2 3;", 2, 21);
      text("rule " + key + " = a;", 2, 5);
      text("word a 1 2 3; rule s = " + key + ";", 2, 23);
      boolean parts = key.equals("or");
      text("word a 1 2 3; rule s = a " + key + ";", 2, parts ? 27 : 25);
      for (String name : new String[] {key.substring(1), key.substring(0, key.length() - 1), key + "s", "s" + key}) {
        GuildCharter x = good("word " + name + " 1 2 3; pair " + name + " " + name + " 1 2 3; rule x = " + name + " " + name + ";");
        C.due("[" + name + "] is a NAME", x.about(0), 1);
      }
    }
    good("word alt 1 2 3; word line 1 2 3; word port 1 2 3; word name 1 2 3; word n 1 2 3; word guild 1 2 3;");
  }

  // ---- how many there can be

  private static void mostWordsTest() {
    C.sentence("1: At most 8 WORDS");
    for (int count = 0; count <= 8; count++) {
      GuildCharter x = good(words(count));
      C.due(count + " WORDS", x.about(0), count);
      C.due("the last of " + count, x.worth(count - 1, 2), count == 0 ? GuildCharter.GAP : 0);
    }
    text(words(9), 2, words(8).length());
    text(words(8) + "word", 2, words(8).length());
    C.due("8 WORDS as bits", good(words(8) + "rule s = x x x; rule x = a or b or c or d or e or f or g or h;").next(), 255);
  }

  private static void worthsTest() {
    C.sentence("1: what each is WORTH to GUILD 0, 1, 2: 0 .. 99, less 50 each: so -50 .. 49");
    int[] numbers = {0, 1, 49, 50, 51, 98, 99};
    for (int guild = 0; guild < 3; guild++) {
      for (int number : numbers) {
        String[] three = {"7", "8", "9"};
        three[guild] = String.valueOf(number);
        GuildCharter x = good("word a " + String.join(" ", three) + ";");
        for (int other = 0; other < 3; other++) {
          C.due("worth(0, " + other + ") of " + number, x.worth(0, other), Integer.parseInt(three[other]) - 50);
        }
      }
      String[] three = {"7", "8", "9"};
      for (int number : new int[] {100, 101, 999, 1000, 9999}) {
        three[guild] = String.valueOf(number);
        text("word a " + String.join(" ", three) + ";", 4, 7 + 2 * guild);
      }
    }
    C.due("the WORDS of most worth", good("word a 1 2 3; word b 99 0 50;").worth(1, 0), 49);
  }

  private static void mostPairsTest() {
    C.sentence("1: At most .. 12 pairs");
    for (int count = 0; count <= 12; count++) {
      C.due(count + " pairs", good(words(8) + pairs(count)).about(1), count);
    }
    text(words(8) + pairs(13), 2, (words(8) + pairs(12)).length());
    text(words(8) + pairs(12) + "pair", 2, (words(8) + pairs(12)).length());
    GuildCharter x = good(words(8) + pairs(11) + "pair h h 1 51 99;");
    C.due("the twelfth counts", x.behind(7, 7, 2), 49);
  }

  private static void pairsToldAheadTest() {
    C.sentence("1: pairs (two WORDS told ahead, in this order");
    text("pair a a 1 2 3; word a 1 2 3;", 5, 5);
    text("word a 1 2 3; pair b a 1 2 3; word b 1 2 3;", 5, 19);
    text("word a 1 2 3; pair a b 1 2 3; word b 1 2 3;", 5, 21);
    GuildCharter x = good("word a 1 2 3; word b 1 2 3; pair a b 55 56 57;");
    C.due("a ahead of b", x.behind(0, 1, 0), 5);
    C.due("b ahead of a", x.behind(1, 0, 0), 0);
    C.due("a ahead of a", x.behind(0, 0, 0), 0);
    C.due("two that are one WORD", good("word a 1 2 3; pair a a 55 56 57;").behind(0, 0, 2), 7);
  }

  private static void eachTwoOnceTest() {
    C.sentence("1: pairs (.. each two once");
    String two = "word a 1 2 3; word b 1 2 3; pair a b 51 52 53;";
    text(two + "pair a b 51 52 53;", 3, two.length() + 7);
    text(two + "pair b a 1 2 3; pair a b 1 2 3;", 3, two.length() + 23);
    GuildCharter x = good(two + "pair b a 61 62 63; pair a a 71 72 73; pair b b 81 82 83;");
    C.due("a b", x.behind(0, 1, 0), 1);
    C.due("b a", x.behind(1, 0, 1), 12);
    C.due("a a", x.behind(0, 0, 2), 23);
    C.due("b b", x.behind(1, 1, 0), 31);
    C.due("pairs", x.about(1), 4);
    for (int times = 0; times < 3; times++) {
      C.due("once in each text", Check.port(x, two), 2);
      C.due("fault(0)", x.fault(0), 0);
      C.due("pairs of each text", x.about(1), 1);
      C.due("another's is gone", x.behind(1, 0, 1), 0);
    }
    for (int times = 0; times < 3; times++) {
      for (String pair : new String[] {"pair a a", "pair b b", "pair b a"}) {
        C.due(pair + " once in each text", Check.port(x, two + pair + " 1 2 3;"), 2);
      }
    }
    C.due("twice in one", Check.port(x, two + "pair a b 1 2 3;"), NONE);
    C.due("once in the next", Check.port(x, two), 2);
  }

  private static void pairWorthsTest() {
    C.sentence("1: pairs (.. likewise)");
    for (int guild = 0; guild < 3; guild++) {
      String[] three = {"7", "8", "9"};
      for (int number : new int[] {0, 1, 50, 98, 99}) {
        three[guild] = String.valueOf(number);
        GuildCharter x = good("word a 1 2 3; pair a a " + String.join(" ", three) + ";");
        for (int other = 0; other < 3; other++) {
          C.due("behind(0, 0, " + other + ")", x.behind(0, 0, other), Integer.parseInt(three[other]) - 50);
        }
      }
      three[guild] = "100";
      text("word a 1 2 3; pair a a " + String.join(" ", three) + ";", 4, 23 + 2 * guild);
    }
  }

  private static void mostRulesTest() {
    C.sentence("1: At most .. 8 RULES");
    for (int count = 0; count <= 8; count++) {
      GuildCharter x = good(words(1) + rules(count, 1));
      C.due(count + " RULES", x.about(2), count);
      C.due(count + " RULES, the last", x.shortest(count - 1), count == 0 ? NONE : 1);
      C.due(count + " RULES, none behind", x.shortest(count), NONE);
    }
    text(words(1) + rules(9, 1), 2, (words(1) + rules(8, 1)).length());
    text(words(1) + rules(8, 1) + "rule", 2, (words(1) + rules(8, 1)).length());
  }

  private static void ruleNamesTest() {
    C.sentence("1: RULES (their NAMES are no WORDS'");
    text("word a 1 2 3; rule a = a a;", 3, 19);
    text("rule a = b b; word a 1 2 3;", 3, 19);
    text("rule s = a a; rule s = a a; word a 1 2 3;", 3, 19);
    good("word a 1 2 3; rule aa = a a; rule b = a a;");
  }

  private static void mostAltsTest() {
    C.sentence("1: 24 alts in all");
    for (int count = 1; count <= 24; count++) {
      C.due(count + " alts", good(words(1) + "rule s = " + alts(count) + ";").about(3), count);
    }
    text(words(1) + "rule s = " + alts(25) + ";", 2, (words(1) + "rule s = " + alts(24) + " or ").length());
    text(words(1) + "rule s = " + alts(24) + " or;", 2, (words(1) + "rule s = " + alts(24) + " or").length());
    C.due("8 times 3", good(words(1) + rules(8, 3)).about(3), 24);
    String full = words(1) + rules(7, 3) + "rule w = ";
    text(full + alts(4) + ";", 2, (full + alts(3) + " or ").length());
    text(full + alts(4) + "; length 9;", 2, (full + alts(3) + " or ").length());
    C.due("7 times 3 and 2", good(full + alts(2) + ";").about(3), 23);
    String six = words(1) + rules(6, 4);
    C.due("6 times 4", good(six).about(3), 24);
    text(six + "rule w = a;", 2, (six + "rule w = ").length());
    text(six + "rule w = ;", 2, (six + "rule w = ").length());
    text(six + "rule w a;", 2, (six + "rule w ").length());
    StringBuilder last = new StringBuilder(words(2) + "length 1; rule s = a");
    for (int i = 2; i < 24; i++) {
      last.append(" or a a");
    }
    C.due("the last of 23 counts", good(last + " ;").next(), 1);
    C.due("the last of 24 counts", good(last + " or b;").next(), 3);
  }

  private static void mostNamesInAnAltTest() {
    C.sentence("1: 4 NAMES in each");
    text("word a 1 2 3; rule s = ;", 2, 23);
    for (int count = 1; count <= 4; count++) {
      GuildCharter x = good("word a 1 2 3; rule s = a" + " a".repeat(count - 1) + ";");
      C.due(count + " NAMES", x.shortest(0), count);
      x = good("word a 1 2 3; rule s = a a a a or a" + " a".repeat(count - 1) + ";");
      C.due(count + " NAMES behind 4", x.shortest(0), count);
    }
    text("word a 1 2 3; rule s = a a a a a;", 2, 31);
    text("word a 1 2 3; rule s = a or a a a a a a;", 2, 36);
    text("word a 1 2 3; rule s = a a a a b;", 2, 31);
  }

  private static void toldAnywhereTest() {
    C.sentence("1: of WORDS, of RULES, told anywhere");
    GuildCharter x = good("rule s = t a; rule t = b a; word b 1 2 3; word a 1 2 3;");
    C.due("shortest(0)", x.shortest(0), 3);
    C.due("b first", x.next(), 1);
    x = good("word a 1 2 3; rule s = t; rule t = a a a;");
    C.due("a RULE told behind", x.shortest(0), 3);
    x = good("word a 1 2 3; rule s = t a; rule t = a a or s s;");
    C.due("a RULE told ahead", x.shortest(1), 2);
    x = good("word a 1 2 3; rule s = s s or a;");
    C.due("its own RULE", x.shortest(0), 1);
  }

  private static void numberedAsToldTest() {
    C.sentence("1: numbered as told, each sort by itself");
    GuildCharter x = good("rule s = t; word z 51 2 3; pair z z 1 2 3; rule t = u u; word a 52 2 3; length 2; rule u = a or z; word m 53 2 3;");
    C.due("z", x.worth(0, 0), 1);
    C.due("a", x.worth(1, 0), 2);
    C.due("m", x.worth(2, 0), 3);
    C.due("s", x.shortest(0), 2);
    C.due("t", x.shortest(1), 2);
    C.due("u", x.shortest(2), 1);
    C.due("z and a as bits", x.next(), 3);
  }

  private static void lengthTest() {
    C.sentence("1: length (1 .. 6; 3)");
    C.due("not told", good("turns 1;").about(4), 3);
    for (int length = 1; length <= 6; length++) {
      GuildCharter x = good("length " + length + ";");
      C.due("about(4)", x.about(4), length);
      C.due("the last PLACE of " + length, x.turn(length - 1), (length - 1) % 3);
      C.due("none behind it", x.turn(length), NONE);
    }
    for (String wrong : new String[] {"0", "7", "00", "000", "0000", "8", "10", "60", "9999"}) {
      text("length " + wrong + ";", 4, 7);
    }
    GuildCharter x = good("length 6;");
    C.due("another text without", Check.port(x, ""), 0);
    C.due("is 3 again", x.about(4), 3);
    Check.port(x, "length 5;");
    Check.port(x, "length 6;");
    Check.port(x, "turns 2;");
    C.due("and once more", x.about(4), 3);
    Check.port(x, "");
    C.due("and still", x.about(4), 3);
  }

  private static void lengthOnceTest() {
    C.sentence("1: length .. once");
    text("length 2; length 2;", 2, 10);
    text("length 2; turns 0; length", 2, 19);
    text("length 3; length 9;", 2, 10);
    GuildCharter x = good("length 2;");
    for (int times = 0; times < 3; times++) {
      C.due("once in each text", Check.port(x, "length 4;"), 0);
    }
  }

  private static void turnsTest() {
    C.sentence("1: turns .. (1 to 6 numbers 0 .. 2");
    text("turns;", 2, 5);
    text("turns ;", 2, 6);
    for (int count = 1; count <= 6; count++) {
      good("turns" + " 2".repeat(count) + ";");
    }
    text("turns" + " 2".repeat(7) + ";", 2, 18);
    text("turns" + " 2".repeat(8) + ";", 2, 18);
    for (int guild = 0; guild <= 2; guild++) {
      C.due("turns " + guild, good("turns " + guild + ";").turn(0), guild);
      C.due("turns 1 000" + guild, good("turns 1 000" + guild + ";").turn(1), guild);
    }
    for (String wrong : new String[] {"3", "4", "10", "9999"}) {
      text("turns " + wrong + ";", 4, 6);
      text("turns 0 1 2 0 1 " + wrong + ";", 4, 16);
    }
  }

  private static void turnsOnceTest() {
    C.sentence("1: turns once");
    text("turns 0; turns 0;", 2, 9);
    text("turns 0; length 2; turns", 2, 19);
    text("turns 0; turns 5;", 2, 9);
    GuildCharter x = good("turns 2;");
    for (int times = 0; times < 3; times++) {
      C.due("once in each text", Check.port(x, "turns 1;"), 0);
      C.due("turn(2)", x.turn(2), 1);
    }
  }

  private static void turnsAgainAndAgainTest() {
    C.sentence("1: whose turn it is by PLACES, again and again; 0 1 2 if not told");
    int[] told = {2, 0, 0, 1, 2, 1};
    StringBuilder turns = new StringBuilder("length 6; turns");
    for (int count = 1; count <= 6; count++) {
      turns.append(' ').append(told[count - 1]);
      GuildCharter x = good(turns + ";");
      for (int place = 0; place < 6; place++) {
        C.due(count + " told, turn(" + place + ")", x.turn(place), told[place % count]);
      }
      C.due(count + " told, turn(6)", x.turn(6), NONE);
    }
    GuildCharter x = good("length 6; turns 1;");
    Check.port(x, "length 6; turns 2 2;");
    Check.port(x, "length 6;");
    for (int place = 0; place < 6; place++) {
      C.due("not told, turn(" + place + ")", x.turn(place), place % 3);
    }
  }

  // ---- FAULTS

  private static void firstByItsPlaceTest() {
    C.sentence("1: FAULTS, the first by its place");
    // One of each kind behind and ahead of one of each other kind.
    String[] faulty = {"?", "word;", "word a 1 2 3;", "length 7;", "pair a c 1 2 3;"};
    int[] kinds = {1, 2, 3, 4, 5};
    int[] places = {0, 4, 5, 7, 7};
    String told = "word a 1 2 3;";
    for (int one = 0; one < 5; one++) {
      for (int other = 0; other < 5; other++) {
        text(told + faulty[one] + faulty[other], kinds[one], told.length() + places[one]);
      }
    }
    text("word a 100 ?", 4, 7);
    text("word a ? 100", 1, 7);
    text("word a 100 200 3;", 4, 7);
    text("word a 1 200 300;", 4, 9);
  }

  private static void placesFromZeroTest() {
    C.sentence("1: (bytes from 0; the end: the text's length)");
    text("?", 1, 0);
    text(" ?", 1, 1);
    text("\n\n?", 1, 2);
    text("word", 2, 4);
    text("word ", 2, 5);
    text("word \n ", 2, 7);
    text("word a 1 2 3", 2, 12);
    text("word a 1 2 3  ", 2, 14);
    text("turns 0", 2, 7);
    text("rule s = a", 2, 10);
    text("rule s = a or ", 2, 14);
  }

  private static void atOnePlaceTheLeastTest() {
    C.sentence("1: at one place the least");
    // A number too many that can't be; an alt and a NAME too many that there are not; words told already and too many.
    text("turns 0 1 2 0 1 2 9;", 2, 18);
    text("length 3 9;", 2, 9);
    text("word a 1 2 3 100;", 2, 13);
    text("word a 1 2 3; rule s = a a a a b;", 2, 31);
    String full = words(1) + "rule s = " + alts(24) + " or ";
    text(full + "b;", 2, full.length());
    text(full + "s;", 2, full.length());
    text(full + "?", 1, full.length());
    text("turns 0 1 2 0 1 2 99999;", 1, 18);
    text("word a 1 2 3; rule s = a a a a ?", 1, 31);
    text("word a 1 2 3; word ? 1 2 3;", 1, 19);
    text(words(8) + "word a 1 2 3;", 2, words(8).length());
    text(words(8) + "?", 1, words(8).length());
  }

  /** Every beginning of a line, with the kinds of TOKENS that can stand behind it. */
  private static void whatCanStandWhereTest() {
    C.sentence("1: 2 one that can't stand there");
    String[][] tokens = {
      {"word", "K"}, {"pair", "K"}, {"rule", "K"}, {"length", "K"}, {"turns", "K"}, {"or", "O"}, {"a", "N"}, {"1", "1"},
      {";", ";"}, {"=", "="}, {"", "E"}};
    List<String[]> beginnings = new ArrayList<>();
    beginnings.add(new String[] {"", "KE"});
    beginnings.add(new String[] {"word", "N"});
    beginnings.add(new String[] {"word b", "1"});
    beginnings.add(new String[] {"word b 1", "1"});
    beginnings.add(new String[] {"word b 1 1", "1"});
    beginnings.add(new String[] {"word b 1 1 1", ";"});
    beginnings.add(new String[] {"pair", "N"});
    beginnings.add(new String[] {"pair a", "N"});
    beginnings.add(new String[] {"pair a a", "1"});
    beginnings.add(new String[] {"pair a a 1", "1"});
    beginnings.add(new String[] {"pair a a 1 1", "1"});
    beginnings.add(new String[] {"pair a a 1 1 1", ";"});
    beginnings.add(new String[] {"rule", "N"});
    beginnings.add(new String[] {"rule s", "="});
    beginnings.add(new String[] {"rule s =", "N"});
    beginnings.add(new String[] {"rule s = a", "NO;"});
    beginnings.add(new String[] {"rule s = a a", "NO;"});
    beginnings.add(new String[] {"rule s = a a a", "NO;"});
    beginnings.add(new String[] {"rule s = a a a a", "O;"});
    beginnings.add(new String[] {"rule s = a or", "N"});
    beginnings.add(new String[] {"rule s = a or a", "NO;"});
    beginnings.add(new String[] {"length", "1"});
    beginnings.add(new String[] {"length 2", ";"});
    beginnings.add(new String[] {"turns", "1"});
    beginnings.add(new String[] {"turns 1", "1;"});
    beginnings.add(new String[] {"turns 1 1 1 1 1", "1;"});
    beginnings.add(new String[] {"turns 1 1 1 1 1 1", ";"});
    for (String told : new String[] {"word a 1 2 3; ", "word a 1 2 3; rule x = a; "}) {
      for (String[] begun : beginnings) {
        for (String[] token : tokens) {
          standing(told + begun[0] + (begun[0].isEmpty() ? "" : " "), token[0], begun[1].contains(token[1]));
        }
        String text = told + begun[0] + (begun[0].isEmpty() ? "" : " ");
        text(text + "?", 1, text.length());
      }
    }
  }

  private static void standing(String begun, String token, boolean can) {
    if (!can) {
      text(begun + token, 2, begun.length());
      if (!token.isEmpty()) {
        text(begun + token + " ;", 2, begun.length());
      }
      return;
    }
    GuildCharter x = new GuildCharter();
    Check.port(x, begun + token);
    boolean here = x.fault(1) == begun.length() && x.fault(0) == 2;
    C.due("[" + begun + token + "] can stand there", here, false);
  }

  private static void tooManyAtTheFirstWordTest() {
    C.sentence("1: one of a sort too many or a second time: at the line's first word; an alt, a NAME, a number too many: there");
    text(words(8) + "  word i 1 2 3;", 2, words(8).length() + 2);
    text(words(8) + pairs(12) + "\npair h h 1 2 3;", 2, (words(8) + pairs(12)).length() + 1);
    text(words(1) + rules(8, 1) + " rule z = a;", 2, (words(1) + rules(8, 1)).length() + 1);
    text("length 1;  length 2;", 2, 11);
    text("turns 1;  turns 2;", 2, 10);
    text("word a 1 2 3; rule s = a a a a  a;", 2, 32);
    text("word a 1 2 3 \n4;", 2, 14);
    text("word a 1 2 3; pair a a 1 2 3  4;", 2, 30);
    text("length 1  1;", 2, 10);
    text("turns 0 0 0 0 0 0  0;", 2, 19);
    text(words(1) + "rule s = " + alts(24) + " or  a;", 2, (words(1) + "rule s = " + alts(24) + " or  ").length());
  }

  private static void nameToldAlreadyTest() {
    C.sentence("1: 3 a NAME told already (as a WORD or a RULE)");
    text("word a 1 2 3; word a 1 2 3;", 3, 19);
    text("word a 1 2 3; word b 1 2 3; word  a 1 2 3;", 3, 34);
    text("word a 1 2 3; word b 1 2 3; word  b 1 2 3;", 3, 34);
    text("word a 1 2 3; rule a = a;", 3, 19);
    text("rule s = a; word s 1 2 3;", 3, 17);
    text("rule s = a; rule t = a; rule t = a;", 3, 29);
    text("rule s = a; rule t = a; rule s = a;", 3, 29);
    text("word abcdefgh 1 2 3; word abcdefgh 1 2 3;", 3, 26);
    good("word a 1 2 3; word b 1 2 3; rule c = a; rule d = b;");
    GuildCharter x = good("word a 1 2 3; rule s = a;");
    C.due("told by another text", Check.port(x, "word s 1 2 3; rule a = s;"), 1);
    C.due("told by a third", Check.port(x, "word a 1 2 3; word s 1 2 3;"), 2);
  }

  private static void pairToldAlreadyTest() {
    C.sentence("1: 3 .. a pair told already (at its second NAME)");
    text("word a 1 2 3; pair a a 1 2 3; pair a  a 1 2 3;", 3, 38);
    text("word a 1 2 3; word b 1 2 3; pair a b 1 2 3; pair a b 100 2 3;", 3, 51);
    text("word a 1 2 3; word b 1 2 3; pair a b 1 2 3; pair a b", 3, 51);
    text("word a 1 2 3; word b 1 2 3; pair a b 1 2 3; pair a ;", 2, 51);
    good("word a 1 2 3; word b 1 2 3; pair a b 1 2 3; pair b a 1 2 3;");
    good("word a 1 2 3; word b 1 2 3; pair a b 1 2 3; pair a a 1 2 3;");
    good("word a 1 2 3; word b 1 2 3; pair a b 1 2 3; pair b b 1 2 3;");
  }

  private static void numberThatCannotBeTest() {
    C.sentence("1: 4 a number that can't be");
    good("word a 99 99 99; pair a a 99 99 99; length 6; turns 2;");
    text("word a 100 99 99;", 4, 7);
    text("word a 99 100 99;", 4, 10);
    text("word a 99 99 100;", 4, 13);
    text("word a 1 2 3; pair a a 100 1 1;", 4, 23);
    text("length 7;", 4, 7);
    text("length 0;", 4, 7);
    good("length 1;");
    text("turns 3;", 4, 6);
    text("turns 2 3;", 4, 8);
    text("length 0100;", 4, 7);
    text("word a 100", 4, 7);
  }

  private static void noSuchWordTest() {
    C.sentence("1: 5 a NAME of a pair that no WORD has");
    text("word a 1 2 3; pair b a 1 2 3;", 5, 19);
    text("word a 1 2 3; pair a b 1 2 3;", 5, 21);
    text("word a 1 2 3; pair b c 1 2 3;", 5, 19);
    text("word a 1 2 3; rule s = a; pair s a 1 2 3;", 5, 31);
    text("word a 1 2 3; rule s = a; pair a s 1 2 3;", 5, 33);
    text("word a 1 2 3; pair aa a 1 2 3;", 5, 19);
    text("word a 1 2 3; pair b", 5, 19);
    text("word a 1 2 3; pair a", 2, 20);
    good("word a 1 2 3; pair a a 1 2 3;");
  }

  private static void onlyThenSixAndSevenTest() {
    C.sentence("1: Of a text without any of these the first by its place: 6 .., 7");
    String both = "word a 1 2 3; rule s = b or s;";
    text(both, 6, 23);
    text("word a 1 2 3; rule s = s or b;", 7, 23);
    text(both + "?", 1, 30);
    text(both + ";", 2, 30);
    text(both + "word s 1 2 3;", 3, 35);
    text(both + "length 7;", 4, 37);
    text(both + "pair a b 1 2 3;", 5, 37);
    text("rule s = b; rule t = t; word a 1 2 3;", 6, 9);
    text("rule s = a; rule t = t; rule u = b; word a 1 2 3;", 7, 21);
    text("rule s = a; rule t = b; rule u = u; word a 1 2 3;", 6, 21);
  }

  private static void noSuchNameTest() {
    C.sentence("1: 6 a NAME of an alt that there is not");
    text("rule s = a;", 6, 9);
    text("word a 1 2 3; rule s = b;", 6, 23);
    text("word a 1 2 3; rule s = a b;", 6, 25);
    text("word a 1 2 3; rule s = a a a b;", 6, 29);
    text("word a 1 2 3; rule s = a or a or b a;", 6, 33);
    text("word a 1 2 3; rule s = a; rule t = aa;", 6, 35);
    text("rule s = a; rule t = s s;", 6, 9);
    good("rule s = a; word a 1 2 3;");
    good("rule s = t t; rule t = s s;");
    GuildCharter x = good("word a 1 2 3; word b 1 2 3; rule s = b; rule t = a;");
    C.due("a WORD of another text", Check.port(x, "word a 1 2 3; rule s = b;"), NONE);
    C.due("fault(0)", x.fault(0), 6);
    C.due("a RULE of another text", Check.port(x, "word a 1 2 3; rule s = t;"), NONE);
    C.due("fault(0)", x.fault(0), 6);
  }

  private static void ownNameAloneTest() {
    C.sentence("1: 7 the one NAME of an alt, if it is its own RULE's, or that of a RULE told ahead of it");
    text("word a 1 2 3; rule s = s;", 7, 23);
    text("word a 1 2 3; rule s = a or s;", 7, 28);
    text("word a 1 2 3; rule s = a; rule t = s;", 7, 35);
    text("word a 1 2 3; rule s = a; rule t = a; rule u = t;", 7, 47);
    text("word a 1 2 3; rule s = a; rule t = a; rule u = s;", 7, 47);
    text("word a 1 2 3; rule s = t; rule t = a or s;", 7, 40);
    good("word a 1 2 3; rule s = t; rule t = a;");
    good("word a 1 2 3; rule s = t or u; rule t = u; rule u = a;");
    good("word a 1 2 3; rule s = s s or s a or a s or a; rule t = s s or s a;");
    good("word a 1 2 3; rule s = a;");
  }
}
