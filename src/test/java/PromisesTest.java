/** For each promise of the document: ordinary inputs, the edges that it names, wrong inputs. */
public final class PromisesTest {
  private static final int NONE = GuildCharter.NONE;
  private static final int GAP = GuildCharter.GAP;
  private static final int[] WRONG = {-1, -2, -1000000, Integer.MIN_VALUE, Integer.MAX_VALUE, 1000};
  private static final Check C = new Check("PromisesTest");

  /** Each guild likes another word, and any three words are a charter. */
  private static final String PLAIN = "word a 51 50 50; word b 50 51 50; word c 50 50 60;"
      + "rule s = x x x; rule x = a or b or c;";
  /** Any four a's, in as many ways as pairs of brackets can stand. */
  private static final String BRACKETS = "word a 50 50 50; rule s = s s or a; length 4;";
  /** Eight words, any five of them: more rows than are looked at. */
  private static final String LARGE = "word a 1 2 3; word b 1 2 3; word c 1 2 3; word d 1 2 3; word e 1 2 3;"
      + "word f 1 2 3; word g 1 2 3; word h 51 2 3; rule s = x or x s; rule x = a or b or c or d or e or f or g or h;"
      + "length 5;";

  public static void main(String[] args) {
    promise1();
    promise2();
    promise3();
    promise4();
    promise5();
    fullTapes();
    faultsOfCounts();
    promise6();
    promise7();
    promise8();
    promise9();
    promise10();
    promises11And12();
    promise13();
    promise14();
    promise15();
    promise16();
    promise17();
    promise18();
    promise19();
    promise20();
    promise21();
    promise22();
    promise23();
    promise24();
    promise25();
    promise26();
    promise27();
    promise28();
    promise29();
    promise30();
    promise31();
    promise32();
    promise33();
    promise34();
    promise35();
    promise36();
    promise37();
    promise38();
    edgeOfSpent();
    C.finish();
  }

  private static void promise1() {
    GuildCharter x = new GuildCharter();
    int[] about = {0, 0, 0, 0, 3, 0, 0, 0, 0, 0, 0, 0};
    for (int i = 0; i < about.length; i++) {
      C.due("1: about(" + i + ")", x.about(i), about[i]);
    }
    C.due("1: turn(0)", x.turn(0), 0);
    C.due("1: turn(1)", x.turn(1), 1);
    C.due("1: turn(2)", x.turn(2), 2);
    C.due("1: fit()", x.fit(), 0);
    C.due("1: NONE", NONE, -1);
    C.due("1: GAP", GAP, -1000000);
    C.due("1: port() of nothing", x.port(), 0);
  }

  private static void promise2() {
    GuildCharter x = new GuildCharter();
    C.due("2: feed", x.feed(0x6c656e67, 0x74682035, 0x3b202020, 0x20202020, 0x20202020), 20);
    C.due("2: highest byte first", x.port(), 0);
    C.due("2: about(4)", x.about(4), 5);
    for (int i = 1; i <= 80; i++) {
      C.due("2: feed", x.feed(-1, 0, Integer.MIN_VALUE, Integer.MAX_VALUE, 7), 20 * i);
    }
    C.due("2: feed beyond 1600", x.feed(0, 0, 0, 0, 0), NONE);
    C.due("2: about(10)", x.about(10), 1600);
    x.end(1581);
    C.due("2: feed to 1601", x.feed(0, 0, 0, 0, 0), NONE);
    x.end(1580);
    C.due("2: feed to 1600", x.feed(0, 0, 0, 0, 0), 1600);
  }

  private static void promise3() {
    GuildCharter x = new GuildCharter();
    C.due("3: end(0)", x.end(0), 0);
    C.due("3: end(1)", x.end(1), NONE);
    x.feed(1, 2, 3, 4, 5);
    C.due("3: end(21)", x.end(21), NONE);
    C.due("3: end(20)", x.end(20), 20);
    C.due("3: end(7)", x.end(7), 7);
    C.due("3: end(8)", x.end(8), NONE);
    for (int wrong : WRONG) {
      C.due("3: end(" + wrong + ")", x.end(wrong), NONE);
    }
    C.due("3: about(10)", x.about(10), 7);
    C.due("3: feed behind", x.feed(1, 2, 3, 4, 5), 27);
  }

  private static void promise4() {
    GuildCharter x = Check.made(PLAIN);
    x.write(0);
    x.sell(1, 2);
    x.image(1);
    x.hole(0, 1);
    x.seen(0, 0, true);
    x.later(5);
    x.written(0);
    Check.tape(x, "word d 1 2;");
    C.due("4: a fault", x.port(), NONE);
    int[] stays = {3, 0, 2, 4, 3, 1, 2, 0, 1, 5, 11, 3};
    for (int i = 0; i < stays.length; i++) {
      C.due("4: all stays, about(" + i + ")", x.about(i), stays[i]);
    }
    C.due("4: all stays, fit()", x.fit(), 9);
    C.due("4: all stays, turn(1)", x.turn(1), 2);
    x.end(0);
    Check.tape(x, PLAIN);
    C.due("4: port()", x.port(), 3);
    int[] anew = {3, 0, 2, 4, 3, 0, 0, 0, 0, 5, 0, 0};
    for (int i = 0; i < anew.length; i++) {
      C.due("4: anew, about(" + i + ")", x.about(i), anew[i]);
    }
    C.due("4: anew, fit()", x.fit(), 27);
    C.due("4: anew, turn(1)", x.turn(1), 1);
    C.due("4: anew, back(1)", x.back(1), NONE);
    C.due("4: anew, lies(0)", x.lies(0), NONE);
    C.due("4: anew, seen", x.seen(0, 0, true), 0);
    C.due("4: empty text", x.port(), 0);
    C.due("4: empty text, about(2)", x.about(2), 0);
    C.due("4: empty text, next()", x.next(), 0);
  }

  private static void text(String text, int kind, int place) {
    GuildCharter x = new GuildCharter();
    int words = Check.port(x, text);
    C.due("5: [" + text + "] port() is NONE", words == NONE, kind != 0);
    C.due("5: [" + text + "] fault(0)", x.fault(0), kind);
    C.due("5: [" + text + "] fault(1)", x.fault(1), place);
  }

  /** What was on the tape behind its end is not there any more. */
  private static void cut(String text, int end, int kind, int place) {
    GuildCharter x = new GuildCharter();
    Check.tape(x, text);
    x.end(end);
    x.port();
    C.due("5: [" + text + "] up to " + end + ", fault(0)", x.fault(0), kind);
    C.due("5: [" + text + "] up to " + end + ", fault(1)", x.fault(1), place);
  }

  private static void good(String text) {
    text(text, 0, NONE);
  }

  private static void promise5() {
    good("");
    good(" \n ");
    text("?", 1, 0);
    text("word A 1 2 3;", 1, 5);
    text("word\ta 1 2 3;", 1, 4);
    text("word a 1 2 3;" + (char) 0, 1, 13);
    text("word a 1 2 3;" + (char) 255, 1, 13);
    good("word abcdefgh 1 2 3;");
    text("word abcdefghi 1 2 3;", 1, 5);
    text("word a 12345 1 1;", 1, 7);
    text("word a 1 1 1b;", 1, 11);
    text("length 3length 3;", 1, 7);
    text("length 3a", 1, 7);
    text("length 3z;", 1, 7);
    cut("rule s = ab", 10, 2, 10);
    cut("length 22;", 8, 2, 8);
    cut("length 2x", 8, 2, 8);
    cut("length 2;?", 9, 0, NONE);
    good("word a1 2 3;length3;rule s=a;");
    good("word a 0000 0099 7;");
    text("word", 2, 4);
    text("word  ", 2, 6);
    text("words a 1 2 3;", 2, 0);
    text(";", 2, 0);
    text("7", 2, 0);
    text("or", 2, 0);
    text("word a 1 2 3", 2, 12);
    text("word a 1 2 3 4;", 2, 13);
    text("word a 1 2;", 2, 10);
    text("word 1 2 3;", 2, 5);
    for (String key : new String[] {"word", "pair", "rule", "or", "length", "turns"}) {
      text("word " + key + " 1 2 3;", 2, 5);
      text("rule " + key + " = a;", 2, 5);
      text("rule s = " + key + ";", 2, 9);
    }
    good("word wor 1 2 3; word orr 1 2 3; word turn 1 2 3;");
    text("rule s a;", 2, 7);
    text("rule s =;", 2, 8);
    text("rule s = a or;", 2, 13);
    text("rule s = a or or a;", 2, 14);
    text("rule s = a = a;", 2, 11);
    text("rule s = a 3;", 2, 11);
    text("turns;", 2, 5);
    text("turns a;", 2, 6);
    text("length;", 2, 6);
    text("length 3 3;", 2, 9);
    text("word a 1 2 3; word a 1 2 3;", 3, 19);
    text("rule a = a; word a 1 2 3;", 3, 17);
    text("word a 1 2 3; rule a = a;", 3, 19);
    text("rule s = a; rule s = a;", 3, 17);
    text("word a 1 2 3; pair a a 1 2 3; pair a a 1 2 3;", 3, 37);
    good("word a 1 2 3; word b 1 2 3; pair a b 1 2 3; pair b a 1 2 3; pair a a 1 2 3;");
    text("word a 1 100 3;", 4, 9);
    text("word a 1 2 3; pair a a 1 2 9999;", 4, 27);
    text("length 0;", 4, 7);
    text("length 7;", 4, 7);
    good("length 6;");
    good("length 0001;");
    text("turns 0 1 3;", 4, 10);
    good("turns 0 1 2 2 1 0;");
    text("word a 1 2 3; pair b a 1 2 3;", 5, 19);
    text("word a 1 2 3; pair a b 1 2 3; word b 1 2 3;", 5, 21);
    text("word a 1 2 3; rule s = a; pair a s 1 2 3;", 5, 33);
    text("word a 1 2 3; rule s = a b;", 6, 25);
    good("rule s = t a; rule t = a; word a 1 2 3;");
    text("word a 1 2 3; rule s = s;", 7, 23);
    text("word a 1 2 3; rule s = a or t; rule t = a or s;", 7, 45);
    good("word a 1 2 3; rule s = t; rule t = a or s s;");
    text("word a 1 2 3; rule s = a or s or b;", 7, 28);
    text("word a 1 2 3; rule s = a or b or s;", 6, 28);
    text("rule s = b; ;", 2, 12);
    text("rule s = s; word a 1 2 300;", 4, 23);
    text("word a 100 ?", 4, 7);
    text("word a ? 100", 1, 7);
    GuildCharter x = new GuildCharter();
    C.due("5: fault(0) of none", x.fault(0), 0);
    C.due("5: fault(1) of none", x.fault(1), NONE);
    Check.port(x, "word");
    for (int wrong : WRONG) {
      C.due("5: fault(" + wrong + ")", x.fault(wrong), NONE);
    }
    C.due("5: fault(2)", x.fault(2), NONE);
    C.due("5: fault(0)", x.fault(0), 2);
    C.due("5: fault(1)", x.fault(1), 4);
    Check.port(x, "length 2;");
    C.due("5: mended, fault(0)", x.fault(0), 0);
    C.due("5: mended, fault(1)", x.fault(1), NONE);
  }

  /** Texts that fill the tape to its last byte. */
  private static void fullTapes() {
    good(" ".repeat(1600));
    text(" ".repeat(1599) + "a", 2, 1599);
    text(" ".repeat(1596) + "word", 2, 1600);
    text(" ".repeat(1592) + "length 3", 2, 1600);
    good(" ".repeat(1591) + "length 3;");
    text("a".repeat(1600), 1, 0);
    text("length " + "3".repeat(1593), 1, 7);
    text(";".repeat(1600), 2, 0);
    good("word a 1 2 3;" + "\n".repeat(1587));
  }

  private static void faultsOfCounts() {
    StringBuilder words = new StringBuilder();
    for (char c = 'a'; c < 'i'; c++) {
      words.append("word ").append(c).append(" 1 2 3;");
    }
    good(words.toString());
    text(words + "word i 1 2 3;", 2, words.length());
    text(words + "word a 1 2 3;", 2, words.length());
    StringBuilder pairs = new StringBuilder(words);
    for (int i = 0; i < 12; i++) {
      pairs.append("pair ").append((char) ('a' + i / 8)).append(" ").append((char) ('a' + i % 8)).append(" 1 2 3;");
    }
    good(pairs.toString());
    text(pairs + "pair h h 1 2 3;", 2, pairs.length());
    StringBuilder rules = new StringBuilder("word a 1 2 3;");
    for (char c = 'q'; c < 'y'; c++) {
      rules.append("rule ").append(c).append(" = a;");
    }
    good(rules.toString());
    text(rules + "rule z = a;", 2, rules.length());
    StringBuilder alts = new StringBuilder("word a 1 2 3; rule s = a");
    for (int i = 1; i < 24; i++) {
      alts.append(" or a");
    }
    good(alts + ";");
    text(alts + " or a;", 2, alts.length() + 4);
    text(alts + "; rule t = a;", 2, alts.length() + 11);
    good("word a 1 2 3; rule s = a a a a;");
    text("word a 1 2 3; rule s = a a a a a;", 2, 31);
    text("length 2; length 2;", 2, 10);
    text("turns 0; turns 0;", 2, 9);
    text("turns 0 1 2 0 1 2 9;", 2, 18);
  }

  private static void promise6() {
    GuildCharter x = Check.made("word a 0 99 50; word b 1 2 3;");
    C.due("6: worth(0, 0)", x.worth(0, 0), -50);
    C.due("6: worth(0, 1)", x.worth(0, 1), 49);
    C.due("6: worth(0, 2)", x.worth(0, 2), 0);
    C.due("6: worth(1, 2)", x.worth(1, 2), -47);
    C.due("6: worth(2, 0)", x.worth(2, 0), GAP);
    C.due("6: worth(0, 3)", x.worth(0, 3), GAP);
    for (int wrong : WRONG) {
      C.due("6: worth(wrong, 0)", x.worth(wrong, 0), GAP);
      C.due("6: worth(0, wrong)", x.worth(0, wrong), GAP);
    }
  }

  private static void promise7() {
    GuildCharter x = Check.made("word a 1 1 1; word b 1 1 1; pair a b 0 99 51; pair b b 40 50 60;");
    C.due("7: behind(0, 1, 0)", x.behind(0, 1, 0), -50);
    C.due("7: behind(0, 1, 1)", x.behind(0, 1, 1), 49);
    C.due("7: behind(0, 1, 2)", x.behind(0, 1, 2), 1);
    C.due("7: behind(1, 1, 0)", x.behind(1, 1, 0), -10);
    C.due("7: behind(1, 0, 0)", x.behind(1, 0, 0), 0);
    C.due("7: behind(0, 0, 0)", x.behind(0, 0, 0), 0);
    C.due("7: behind(0, 2, 0)", x.behind(0, 2, 0), GAP);
    C.due("7: behind(2, 0, 0)", x.behind(2, 0, 0), GAP);
    C.due("7: behind(0, 0, 3)", x.behind(0, 0, 3), GAP);
    for (int wrong : WRONG) {
      C.due("7: behind(wrong, 0, 0)", x.behind(wrong, 0, 0), GAP);
      C.due("7: behind(0, wrong, 0)", x.behind(0, wrong, 0), GAP);
      C.due("7: behind(0, 0, wrong)", x.behind(0, 0, wrong), GAP);
    }
    Check.port(x, "word a 1 1 1; word b 1 1 1;");
    C.due("7: no pair of the old port", x.behind(0, 1, 0), 0);
  }

  private static void promise8() {
    GuildCharter x = Check.made("length 6; turns 2 1;");
    int[] turns = {2, 1, 2, 1, 2, 1};
    for (int i = 0; i < 6; i++) {
      C.due("8: turn(" + i + ")", x.turn(i), turns[i]);
    }
    C.due("8: turn(6)", x.turn(6), NONE);
    for (int wrong : WRONG) {
      C.due("8: turn(wrong)", x.turn(wrong), NONE);
    }
    x.sell(3, 0);
    C.due("8: turn(3) sold", x.turn(3), 0);
    Check.port(x, "length 5;");
    int[] plain = {0, 1, 2, 0, 1, NONE};
    for (int i = 0; i < 6; i++) {
      C.due("8: plain turn(" + i + ")", x.turn(i), plain[i]);
    }
    x = Check.made("word a 1 1 1; rule s = a a a; turns 1;");
    x.sell(0, 2);
    x.write(0);
    C.due("8: turn of a written place", x.turn(0), 2);
    C.due("8: turn(2)", x.turn(2), 1);
  }

  private static void promise9() {
    GuildCharter x = Check.made("word a 1 1 1; word b 1 1 1; rule s = a b a or b;");
    C.due("9: b is a sentence, no charter", x.write(1), NONE);
    C.due("9: about(6)", x.about(6), 0);
    C.due("9: write(0)", x.write(0), 1);
    C.due("9: write(0) again", x.write(0), NONE);
    for (int wrong : WRONG) {
      C.due("9: write(wrong)", x.write(wrong), NONE);
    }
    C.due("9: write(2)", x.write(2), NONE);
    C.due("9: write(1)", x.write(1), 2);
    C.due("9: write(0)", x.write(0), 3);
    C.due("9: full", x.write(0), NONE);
    C.due("9: about(6)", x.about(6), 3);
    C.due("9: without rules", Check.made("word a 1 1 1;").write(0), NONE);
    x = Check.made(LARGE);
    for (int i = 1; i <= 5; i++) {
      C.due("9: write in a large one", x.write(i), i);
    }
  }

  private static void promise10() {
    GuildCharter x = Check.made(PLAIN);
    C.due("10: sell(0, 2)", x.sell(0, 2), 0);
    C.due("10: sell(0, 1)", x.sell(0, 1), 2);
    C.due("10: to whom it is", x.sell(0, 1), 1);
    C.due("10: about(6)", x.about(6), 3);
    C.due("10: sell(3, 0)", x.sell(3, 0), NONE);
    C.due("10: sell(0, 3)", x.sell(0, 3), NONE);
    for (int wrong : WRONG) {
      C.due("10: sell(wrong, 0)", x.sell(wrong, 0), NONE);
      C.due("10: sell(0, wrong)", x.sell(0, wrong), NONE);
    }
    x.write(0);
    C.due("10: written", x.sell(0, 0), NONE);
    C.due("10: the last", x.sell(2, 0), 2);
    C.due("10: about(6)", x.about(6), 5);
    C.due("10: written() by sold turns", x.written(0), 2);
    C.due("10: in an empty port", new GuildCharter().sell(2, 1), 2);
  }

  private static void promises11And12() {
    GuildCharter x = Check.made(PLAIN);
    C.due("11: nothing", x.undo(), false);
    C.due("12: nothing", x.redo(), false);
    x.write(0);
    x.sell(2, 0);
    x.write(1);
    C.due("11: undo a word", x.undo(), true);
    C.due("11: word(1)", x.word(1), NONE);
    C.due("11: undo a sale", x.undo(), true);
    C.due("11: turn(2)", x.turn(2), 2);
    C.due("12: about(7)", x.about(7), 2);
    C.due("12: a sale again", x.redo(), true);
    C.due("12: turn(2)", x.turn(2), 0);
    C.due("12: a word again", x.redo(), true);
    C.due("12: word(1)", x.word(1), 1);
    C.due("12: no more", x.redo(), false);
    x.undo();
    C.due("12: what can't be is no act", x.write(9), NONE);
    C.due("12: about(7)", x.about(7), 1);
    C.due("12: another act", x.write(2), 2);
    C.due("12: no redo behind it", x.redo(), false);
    C.due("12: word(1)", x.word(1), 2);
    x.wipe();
    for (int i = 0; i < 43; i++) {
      x.sell(0, (i + 1) % 3);
    }
    C.due("11: 40 are kept", x.about(6), 40);
    for (int i = 0; i < 40; i++) {
      C.due("11: undo", x.undo(), true);
    }
    C.due("11: the oldest are gone", x.undo(), false);
    C.due("11: what they did stays", x.turn(0), 0);
    C.due("12: about(7)", x.about(7), 40);
    for (int i = 0; i < 40; i++) {
      C.due("12: redo", x.redo(), true);
    }
    C.due("12: turn(0)", x.turn(0), 1);
    C.due("12: at the end", x.redo(), false);
    x.undo();
    x.sell(1, 0);
    C.due("11: about(6)", x.about(6), 40);
    manyActs();
  }

  private static void state(String when, GuildCharter x, int[] want) {
    C.due(when + ", about(5)", x.about(5), want[0]);
    for (int place = 0; place < 3; place++) {
      C.due(when + ", turn(" + place + ")", x.turn(place), want[1 + place]);
    }
    C.due(when + ", the last word", x.word(want[0] - 1), want[4]);
  }

  /** Words and sales mixed, 44 of them: each step back and forth is the right one. */
  private static void manyActs() {
    int[][] states = new int[45][];
    states[0] = new int[] {0, 0, 1, 2, NONE};
    GuildCharter back = Check.made(PLAIN);
    GuildCharter forth = Check.made(PLAIN);
    for (int act = 1; act <= 44; act++) {
      int[] now = states[act - 1].clone();
      states[act] = now;
      if (act % 14 == 0) {
        now[4] = act / 14 % 3;
        now[0]++;
        back.write(now[4]);
        forth.write(now[4]);
      } else if (now[0] < 3) {
        int place = now[0] + act * 7 % (3 - now[0]);
        now[1 + place] = act * 5 % 11 % 3;
        back.sell(place, now[1 + place]);
        forth.sell(place, now[1 + place]);
      }
    }
    // The row is full behind act 42, so what comes behind that is no act: 1 and 2 are not kept.
    for (int act = 42; act > 2; act--) {
      C.due("11: act " + act + " taken back", back.undo(), true);
      state("11: ahead of act " + act, back, states[act - 1]);
      C.due("11: act " + act + " taken back", forth.undo(), true);
    }
    C.due("11: act 2 is not kept", back.undo(), false);
    for (int act = 3; act <= 42; act++) {
      C.due("12: act " + act + " done again", forth.redo(), true);
      state("12: behind act " + act, forth, states[act]);
    }
    C.due("12: no more", forth.redo(), false);
  }

  private static void promise13() {
    GuildCharter x = Check.made(PLAIN);
    C.due("13: of an empty row", x.wipe(), 0);
    x.write(0);
    x.write(1);
    x.sell(2, 1);
    x.undo();
    C.due("13: wipe()", x.wipe(), 2);
    C.due("13: about(5)", x.about(5), 0);
    C.due("13: about(6)", x.about(6), 0);
    C.due("13: about(7)", x.about(7), 0);
    x.sell(2, 1);
    x.wipe();
    C.due("13: turn(2)", x.turn(2), 2);
    C.due("13: undo()", x.undo(), false);
    C.due("13: redo()", x.redo(), false);
  }

  private static void promise14() {
    GuildCharter x = Check.made(PLAIN);
    x.write(2);
    x.write(1);
    C.due("14: word(0)", x.word(0), 2);
    C.due("14: word(1)", x.word(1), 1);
    C.due("14: word(2)", x.word(2), NONE);
    for (int wrong : WRONG) {
      C.due("14: word(wrong)", x.word(wrong), NONE);
    }
  }

  private static void promise15() {
    GuildCharter x = Check.made("word a 1 1 1; word b 1 1 1; word c 1 1 1; rule s = a t or b a a or c; rule t = a b or c c;");
    C.due("15: next()", x.next(), 3);
    x.write(0);
    C.due("15: behind a", x.next(), 5);
    x.write(2);
    C.due("15: behind a c", x.next(), 4);
    x.write(2);
    C.due("15: of a charter", x.next(), 0);
    C.due("15: no rule", Check.made("word a 1 1 1;").next(), 0);
    C.due("15: a rule that reads nothing", Check.made("word a 1 1 1; rule s = s s;").next(), 0);
    C.due("15: of a large one", Check.made(LARGE).next(), 255);
  }

  private static void promise16() {
    GuildCharter x = Check.made(BRACKETS);
    int[] ways = {0, 1, 1, 2, 5};
    for (int i = 0; i < 5; i++) {
      C.due("16: readings of " + i, x.readings(), ways[i]);
      x.write(0);
    }
    x = Check.made("word a 1 1 1; rule s = t t or t t; rule t = a or a or a; length 2;");
    x.write(0);
    C.due("16: no sentence", x.readings(), 0);
    x.write(0);
    C.due("16: alts told twice", x.readings(), 18);
    StringBuilder many = new StringBuilder("word a 1 1 1; length 6; rule s = t t t t or t s;");
    for (char c = 't'; c < 'z'; c++) {
      String next = c == 'y' ? "a" : String.valueOf((char) (c + 1));
      many.append("rule ").append(c).append(" = ").append(next).append(" or ").append(next).append(" or ").append(next).append(";");
    }
    x = Check.made(many.toString());
    int[] capped = {0, 0, 0, 0, 1000000000, 1000000000, 1000000000};
    for (int i = 0; i <= 6; i++) {
      C.due("16: capped, of " + i, x.readings(), capped[i]);
      x.write(0);
    }
  }

  private static void promise17() {
    GuildCharter x = Check.made("word a 51 40 50; word b 53 50 20; pair a b 60 50 99; pair b b 49 51 50;"
        + "rule s = a b b b; length 4;");
    C.due("17: empty", x.means(0), 0);
    x.write(0);
    C.due("17: a to 1", x.means(1), -10);
    x.write(1);
    C.due("17: a b to 0", x.means(0), 14);
    C.due("17: a b to 2", x.means(2), 19);
    x.write(1);
    x.write(1);
    C.due("17: a b b b to 0", x.means(0), 1 + 9 + 10 - 2);
    C.due("17: a b b b to 1", x.means(1), -8);
    C.due("17: a b b b to 2", x.means(2), -90 + 49);
    C.due("17: means(3)", x.means(3), GAP);
    for (int wrong : WRONG) {
      C.due("17: means(wrong)", x.means(wrong), GAP);
    }
  }

  /** At 0 guild 0 writes, then guild 1: he looks ahead at what the other would write. */
  private static final String AHEAD = "word a 55 50 50; word b 50 50 50; word c 50 52 50; word d 50 51 50;"
      + "pair a c 30 50 50; rule s = a c or a d or b d; length 2;";

  private static void promise18() {
    GuildCharter x = Check.made(PLAIN);
    C.due("18: written(0)", x.written(0), 1);
    C.due("18: written(1)", x.written(1), 1);
    C.due("18: written(2)", x.written(2), 10);
    lying(x, 0, 1, 2);
    x.write(1);
    x.write(1);
    C.due("18: on from b b", x.written(1), 2);
    lying(x, 1, 1, 2);
    x.write(0);
    C.due("18: of a charter", x.written(0), 1);
    lying(x, 1, 1, 0);
    C.due("18: written(3)", x.written(3), GAP);
    lying(x);
    for (int wrong : WRONG) {
      x.written(0);
      C.due("18: written(wrong)", x.written(wrong), GAP);
      lying(x);
    }
    x = Check.made(AHEAD);
    C.due("18: looking ahead", x.written(0), 0);
    lying(x, 1, 3);
    x = Check.made("word a 50 50 50; word b 50 50 50; rule s = x x; rule x = b or a; length 2;");
    x.written(0);
    lying(x, 0, 0);
    x = Check.made("word a 50 50 50; rule s = a;");
    C.due("18: no charter", x.written(0), GAP);
    x = Check.made(LARGE);
    C.due("18: spent", x.written(0), GAP);
    x.write(7);
    C.due("18: spent from one word on", x.written(0), GAP);
    x.write(7);
    // Guilds 2, 0, 1 write: only 0 does not like all words alike.
    C.due("18: 585 rows", x.written(0), 1 + 1 - 49 + 1 - 49);
    lying(x, 7, 7, 0, 7, 0);
  }

  private static void lying(GuildCharter x, int... words) {
    C.due("about(11)", x.about(11), words.length);
    for (int i = 0; i < words.length; i++) {
      C.due("lies(" + i + ")", x.lies(i), words[i]);
    }
    C.due("lies(" + words.length + ")", x.lies(words.length), NONE);
  }

  private static void promise19() {
    GuildCharter x = Check.made(PLAIN);
    // Those who do not hold write against the sum: guild 0 alone is sure of his own a, and so on.
    C.due("19: held(1)", x.held(1), 1);
    C.due("19: held(2)", x.held(2), 1);
    C.due("19: held(3)", x.held(3), 2);
    C.due("19: held(4)", x.held(4), 10);
    C.due("19: held(5)", x.held(5), 20);
    C.due("19: held(6)", x.held(6), 20);
    C.due("19: held(7)", x.held(7), 30);
    C.due("19: held(0)", x.held(0), GAP);
    C.due("19: held(8)", x.held(8), GAP);
    for (int wrong : WRONG) {
      C.due("19: held(wrong)", x.held(wrong), GAP);
    }
    x.written(0);
    x.held(1);
    lying(x, 0, 1, 2);
    x.write(2);
    C.due("19: from c on, held(3)", x.held(3), 1);
    C.due("19: from c on, held(4)", x.held(4), 20);
    x.sell(1, 2);
    C.due("19: with a sold turn", x.held(4), 30);
    C.due("19: no charter", new GuildCharter().held(1), GAP);
    C.due("19: spent", Check.made(LARGE).held(1), GAP);
  }

  private static void promise20() {
    GuildCharter x = Check.made(PLAIN);
    // Guild 0: 2 * 1 + (2 - 1) + (20 - 10) + 2 * (30 - 20) = 33; guild 2: 2 * 10 + 19 + 19 + 2 * 28 = 114.
    C.due("20: share(0, 0)", x.share(0, 0), 11);
    C.due("20: share(0, 1)", x.share(0, 1), 2);
    C.due("20: share(1, 0)", x.share(1, 0), 11);
    C.due("20: share(1, 1)", x.share(1, 1), 2);
    C.due("20: share(2, 0)", x.share(2, 0), 19);
    C.due("20: share(2, 1)", x.share(2, 1), 1);
    C.due("20: share(3, 0)", x.share(3, 0), GAP);
    C.due("20: share(0, 2)", x.share(0, 2), GAP);
    for (int wrong : WRONG) {
      C.due("20: share(wrong, 0)", x.share(wrong, 0), GAP);
      C.due("20: share(0, wrong)", x.share(0, wrong), GAP);
    }
    // Guild 1 writes the one word: b costs 0 one; it is worth 3 to 1. held: 0: -1, 1: 3, 2: 0, 01: 2, 02: -1, 12: 3, 012: 2.
    x = Check.made("word a 50 50 50; word b 49 53 50; rule s = a or b; length 1; turns 1;");
    C.due("20: below 0", x.share(0, 0), -1);
    C.due("20: below 0, lower part", x.share(0, 1), 1);
    C.due("20: share(1, 0)", x.share(1, 0), 3);
    C.due("20: nothing", x.share(2, 0), 0);
    C.due("20: nothing, lower part", x.share(2, 1), 1);
    C.due("20: no charter", new GuildCharter().share(0, 1), GAP);
    C.due("20: spent", Check.made(LARGE).share(0, 0), GAP);
    // Guild 2 writes; held: 0: 0, 1: 0, 2: 0, 01: 0, 02: 1, 12: 0, 012: 1. So 0 gets 0 + 0 + 1 + 2 of six.
    x = Check.made("word a 50 50 50; word b 51 50 50; rule s = a or b; length 1; turns 2;");
    C.due("20: a half, upper part", x.share(0, 0), 1);
    C.due("20: a half, lower part", x.share(0, 1), 2);
    C.due("20: what he lets be", x.share(2, 0), 1);
    C.due("20: of no use", x.share(1, 0), 0);
  }

  private static void promise21() {
    // As told, guild 0 can only write a, guild 1 only c or d at the end; changed about both get more.
    String both = "word a 50 50 50; word b 50 50 50; pair a a 50 50 50; pair a b 55 49 50; pair b a 49 55 50;"
        + "pair b b 53 53 50; rule s = x x; rule x = a or b; length 2; turns 0 1;";
    GuildCharter x = Check.made(both);
    // 0 writes a: 1 writes a (0 of 0 and -1); 0 writes b: 1 writes a (5 of 5 and 3), 0 has -1. So a a: 0, 0.
    C.due("21: as told", x.written(0), 0);
    lying(x, 0, 0);
    // 1 writes a: 0 writes b (5): 1 has -1; 1 writes b: 0 writes b (3): 1 has 3. So b b: 3, 3.
    C.due("21: swap()", x.swap(), 1);
    x.sell(0, 1);
    x.sell(1, 0);
    C.due("21: as swapped", x.written(0), 3);
    C.due("21: not back", x.swap(), NONE);
    C.due("21: what lies there stays", x.about(11), 2);
    x.undo();
    C.due("21: turns of one guild", x.swap(), NONE);
    x.wipe();
    x.write(0);
    C.due("21: one place left", x.swap(), NONE);
    x.write(0);
    C.due("21: of a charter", x.swap(), NONE);
    x = Check.made(both.replace("s = x x", "s = z x x").replace("length 2", "length 3")
        .replace("turns 0 1", "turns 2 0 1") + "word z 50 50 50;");
    C.due("21: places further on", x.swap(), 12);
    x.write(2);
    C.due("21: places not written yet", x.swap(), 12);
    x.sell(1, 1);
    x.sell(2, 0);
    C.due("21: of sold turns", x.swap(), NONE);
    C.due("21: only more to both", Check.made(PLAIN).swap(), NONE);
    C.due("21: no charter", new GuildCharter().swap(), NONE);
    C.due("21: spent", Check.made(LARGE).swap(), NONE);
  }

  private static void promise22() {
    GuildCharter x = Check.made(PLAIN);
    C.due("22: what he writes anyway", x.bribe(0, 0), 0);
    C.due("22: of like ones the first", x.bribe(1, 0), 1);
    C.due("22: more than the first", x.bribe(0, 1), 2);
    C.due("22: bribe(2, 0)", x.bribe(2, 0), 10);
    C.due("22: bribe(2, 1)", x.bribe(2, 1), 10);
    C.due("22: bribe(3, 0)", x.bribe(3, 0), -2);
    C.due("22: bribe(0, 3)", x.bribe(0, 3), -2);
    for (int wrong : WRONG) {
      C.due("22: bribe(wrong, 0)", x.bribe(wrong, 0), -2);
      C.due("22: bribe(0, wrong)", x.bribe(0, wrong), -2);
    }
    x.write(0);
    C.due("22: a place that is written", x.bribe(0, 0), -2);
    x.sell(1, 2);
    C.due("22: a sold turn", x.bribe(1, 0), 10);
    x = Check.made("word a 50 50 50; word b 99 50 50; word c 0 50 50; rule s = a or b or c; length 1;");
    C.due("22: 99 makes it like another, no more", x.bribe(0, 2), NONE);
    x = Check.made("word c 0 50 50; word b 99 50 50; rule s = c or b; length 1;");
    C.due("22: 99 is enough for the first", x.bribe(0, 0), 99);
    x = Check.made("word b 50 50 50; word c 0 50 50; pair c c 0 50 50; rule s = c c or b b; length 2;");
    C.due("22: 150 is not had", x.bribe(0, 1), NONE);
    x = Check.made("word a 50 50 50; word b 50 50 50; rule s = a a; length 2;");
    C.due("22: a word that can't stand there", x.bribe(0, 1), NONE);
    C.due("22: no charter", Check.made("word a 1 1 1; rule s = a;").bribe(0, 0), NONE);
    C.due("22: spent", Check.made(LARGE).bribe(0, 0), NONE);
    C.due("22: spent, a word that isn't", Check.made(LARGE).bribe(0, 8), -2);
    // Guild 0 writes first and last: a bribe for the last word counts for him at the first one, too.
    x = Check.made("word a 50 50 50; word b 50 50 50; word c 53 50 50; rule s = a a or b b or c c; length 2; turns 0;");
    C.due("22: counted at all his turns", x.bribe(1, 1), 6);
    // Guild 1 knows of it: behind his b guild 0 would now write b, which is worth most to 1.
    x = Check.made("word a 50 50 50; word b 50 50 50; pair b b 48 60 50; pair b a 50 45 50; pair a a 50 51 50;"
        + "rule s = x x; rule x = a or b; length 2; turns 1 0;");
    C.due("22: written before", x.written(1), 1);
    lying(x, 0, 0);
    C.due("22: as known to all", x.bribe(1, 1), 1);
  }

  private static void promise23() {
    GuildCharter x = Check.made("word a 1 1 1; rule s = t a or u a; rule t = a; rule u = u u; rule v = a; rule w = a t;");
    C.due("23: used()", x.used(), 3);
    x = Check.made("word a 1 1 1; rule s = t u; rule t = a; rule u = u a;");
    C.due("23: rule 0 reads nothing", x.used(), 0);
    x = Check.made("word a 1 1 1; rule s = a or t u v v; rule t = a; rule u = u a; rule v = a;");
    C.due("23: not by an alt that reads nothing", x.used(), 1);
    x = Check.made("word a 1 1 1; rule s = z a; rule t = a; rule u = t t; rule z = a u u u;");
    C.due("23: by way of others", x.used(), 15);
    C.due("23: longer than a charter", x.about(4), 3);
    C.due("23: no rules", new GuildCharter().used(), 0);
  }

  private static void promise24() {
    GuildCharter x = Check.made("word a 1 1 1; rule s = t t t t or s s; rule t = u u u u; rule u = v v v v; rule v = w w w w;"
        + "rule w = x x x x; rule x = y y y y; rule y = z z z z; rule z = a a a a;");
    int size = 65536;
    for (int rule = 0; rule < 8; rule++) {
      C.due("24: shortest(" + rule + ")", x.shortest(rule), size);
      size /= 4;
    }
    C.due("24: shortest(8)", x.shortest(8), NONE);
    for (int wrong : WRONG) {
      C.due("24: shortest(wrong)", x.shortest(wrong), NONE);
    }
    x = Check.made(LARGE.replace("rule s = x or x s;", "rule s = x x;"));
    C.due("24: with eight words", x.shortest(0), 2);
    x = Check.made("word a 1 1 1; rule s = s s or t a or u; rule t = t t; rule u = a a a; rule v = a u or s a or a;");
    C.due("24: shortest(0)", x.shortest(0), 3);
    C.due("24: reads none", x.shortest(1), 0);
    C.due("24: shortest(3)", x.shortest(3), 1);
    C.due("24: shortest(4)", x.shortest(4), NONE);
  }

  private static void promise25() {
    GuildCharter x = Check.made(BRACKETS);
    C.due("25: doubtful()", x.doubtful(), 5);
    lying(x, 0, 0, 0, 0);
    x = Check.made("word a 1 1 1; word b 1 1 1; rule s = a x or a b or b x or b a or b a; rule x = a or b; length 2;");
    C.due("25: the first", x.doubtful(), 2);
    lying(x, 0, 1);
    x.write(1);
    C.due("25: whatever is written", x.doubtful(), 2);
    lying(x, 0, 1);
    x = Check.made(PLAIN);
    x.written(0);
    C.due("25: none", x.doubtful(), 0);
    lying(x);
    x = Check.made(LARGE);
    C.due("25: spent", x.doubtful(), -2);
    lying(x);
    C.due("25: no charter", new GuildCharter().doubtful(), 0);
  }

  private static void promise26() {
    GuildCharter x = Check.made(PLAIN + "turns 0;");
    C.due("26: lots(0)", x.lots(0), 6);
    C.due("26: lots(1)", x.lots(1), 6);
    C.due("26: lots(2)", x.lots(2), 60);
    x.write(1);
    x.sell(2, 0);
    C.due("26: nothing sold, nothing written", x.lots(2), 60);
    C.due("26: lots(3)", x.lots(3), GAP);
    for (int wrong : WRONG) {
      C.due("26: lots(wrong)", x.lots(wrong), GAP);
    }
    // One place: each guild is first in two orders.
    x = Check.made("word a 51 50 50; word b 50 53 50; word c 50 50 57; rule s = a or b or c; length 1;");
    C.due("26: one place, lots(0)", x.lots(0), 2);
    C.due("26: one place, lots(1)", x.lots(1), 6);
    C.due("26: one place, lots(2)", x.lots(2), 14);
    // Four places: who is first is fourth, too.
    x = Check.made("word a 51 50 50; word b 50 51 50; word c 50 50 51; rule s = x x x x; rule x = a or b or c; length 4;");
    C.due("26: four places, lots(0)", x.lots(0), 8);
    C.due("26: no charter", new GuildCharter().lots(0), GAP);
    C.due("26: spent", Check.made(LARGE).lots(0), GAP);
  }

  private static void promise27() {
    GuildCharter x = Check.made(PLAIN);
    C.due("27: hole(1, 2)", x.hole(1, 2), true);
    C.due("27: fit()", x.fit(), 9);
    C.due("27: another word", x.hole(1, 0), true);
    C.due("27: fit()", x.fit(), 9);
    C.due("27: hole(2, 2)", x.hole(2, 2), true);
    C.due("27: fit()", x.fit(), 3);
    C.due("27: a hole again", x.hole(1, NONE), true);
    C.due("27: fit()", x.fit(), 9);
    C.due("27: hole(3, 0)", x.hole(3, 0), false);
    C.due("27: hole(0, 3)", x.hole(0, 3), false);
    C.due("27: hole(0, -2)", x.hole(0, -2), false);
    for (int wrong : WRONG) {
      C.due("27: hole(wrong, 0)", x.hole(wrong, 0), false);
      C.due("27: hole(0, wrong)", x.hole(0, wrong), wrong == NONE);
    }
    C.due("27: nothing done", x.fit(), 9);
    C.due("27: a hole of an empty port", new GuildCharter().hole(2, NONE), true);
    C.due("27: a word of an empty port", new GuildCharter().hole(2, 0), false);
  }

  private static void promise28() {
    GuildCharter x = Check.made("word a 1 1 1; word b 1 1 1; rule s = a s b or a b or b b; length 4;");
    C.due("28: fit()", x.fit(), 2);
    x.hole(1, 0);
    C.due("28: a a b b", x.fit(), 1);
    x.hole(0, 1);
    C.due("28: none", x.fit(), 0);
    C.due("28: empty port", new GuildCharter().fit(), 0);
    x = Check.made(LARGE);
    C.due("28: spent", x.fit(), -2);
    x.hole(0, 3);
    C.due("28: 1 + 1 + 8 + 64 + 512 + 4096 rows", x.fit(), -2);
    x.hole(4, 3);
    C.due("28: 1 + 1 + 8 + 64 + 512 + 512 rows", x.fit(), 512);
    x.hole(0, NONE);
    C.due("28: 1 + 8 + 64 + 512 + 4096 + 4096 rows", x.fit(), -2);
    // Rows with h can't go on: 1 + 7 + 49 + 343 + 2401 = 2801 rows.
    x = Check.made("word a 1 1 1; word b 1 1 1; word c 1 1 1; word d 1 1 1; word e 1 1 1; word f 1 1 1; word g 1 1 1;"
        + "word h 1 1 1; rule s = x x x x or h x x; rule x = a or b or c or d or e or f or g; length 4;");
    C.due("28: 2801 rows", x.fit(), 2401);
    // Rows that are as told so far count, even if none that fits can come of them: 1 + 8 + 64 + 512 + 4096.
    x = Check.made("word a 1 1 1; word b 1 1 1; word c 1 1 1; word d 1 1 1; word e 1 1 1; word f 1 1 1; word g 1 1 1;"
        + "word h 1 1 1; rule s = y y a; rule y = x x; rule x = a or b or c or d or e or f or g or h; length 5;");
    x.hole(4, 1);
    C.due("28: none, but spent on it", x.fit(), -2);
    x.hole(0, 1);
    C.due("28: none", x.fit(), 0);
  }

  private static void promise29() {
    GuildCharter x = Check.made(PLAIN);
    C.due("29: best(2)", x.best(2), 30);
    lying(x, 2, 2, 2);
    x.hole(1, 1);
    C.due("29: best(0)", x.best(0), 2);
    lying(x, 0, 1, 0);
    x.hole(0, 2);
    x.hole(2, 2);
    C.due("29: best(0) of one", x.best(0), 0);
    lying(x, 2, 1, 2);
    C.due("29: best(3)", x.best(3), GAP);
    lying(x);
    for (int wrong : WRONG) {
      x.best(0);
      C.due("29: best(wrong)", x.best(wrong), GAP);
      lying(x);
    }
    x = Check.made("word a 50 50 50; word b 50 50 50; rule s = b a or a b; length 2;");
    C.due("29: like ones", x.best(0), 0);
    lying(x, 0, 1);
    x.hole(0, 0);
    x.hole(1, 0);
    C.due("29: none fits", x.best(0), GAP);
    lying(x);
    x = Check.made(LARGE);
    C.due("29: spent", x.best(0), GAP);
    x.hole(0, 0);
    x.hole(1, 0);
    C.due("29: all are below 0", x.best(1), -240);
    lying(x, 0, 0, 0, 0, 0);
    C.due("29: the last word is best", x.best(0), -98 + 3);
    lying(x, 0, 0, 7, 7, 7);
  }

  private static void promise30() {
    GuildCharter x = Check.made("word a 51 40 50; word b 52 50 50; word c 50 50 50; pair a c 99 50 50;"
        + "rule s = a b c or b c or a c or a b; length 3;");
    C.due("30: empty", x.struck(0), NONE);
    x.write(0);
    C.due("30: no sentence", x.struck(0), NONE);
    x.write(1);
    C.due("30: no sentence is left", x.struck(0), NONE);
    x.write(2);
    C.due("30: a c", x.struck(0), 1);
    C.due("30: b c", x.struck(1), 0);
    C.due("30: like ones", x.struck(2), 0);
    C.due("30: struck(3)", x.struck(3), NONE);
    for (int wrong : WRONG) {
      C.due("30: struck(wrong)", x.struck(wrong), NONE);
    }
    C.due("30: the row stays", x.about(5), 3);
    x = Check.made("word a 1 1 1; rule s = a; length 1;");
    x.write(0);
    C.due("30: nothing is no sentence", x.struck(0), NONE);
    x = Check.made(BRACKETS);
    x.write(0);
    x.write(0);
    C.due("30: a shorter sentence than a charter", x.struck(0), 0);
  }

  private static void promise31() {
    GuildCharter x = Check.made(PLAIN);
    C.due("31: nothing lies there", x.lies(0), NONE);
    x.written(1);
    C.due("31: lies(2)", x.lies(2), 2);
    C.due("31: lies(3)", x.lies(3), NONE);
    for (int wrong : WRONG) {
      C.due("31: lies(wrong)", x.lies(wrong), NONE);
    }
    x.write(2);
    x.wipe();
    x.sell(0, 1);
    x.fit();
    x.lots(0);
    x.swap();
    x.bribe(0, 0);
    x.share(0, 0);
    x.orders(0);
    lying(x, 0, 1, 2);
  }

  private static void promise32() {
    GuildCharter x = Check.made(PLAIN);
    C.due("32: seen(3, 0)", x.seen(3, 0, true), NONE);
    C.due("32: seen(0, 3)", x.seen(0, 3, true), NONE);
    for (int wrong : WRONG) {
      C.due("32: seen(wrong, 0)", x.seen(wrong, 0, true), NONE);
      C.due("32: seen(0, wrong)", x.seen(0, wrong, false), NONE);
    }
    for (int i = 0; i < 30; i++) {
      C.due("32: seen", x.seen(i % 3, i % 3, i % 2 == 0), i);
    }
    C.due("32: there are 30", x.seen(0, 0, true), NONE);
    x.untell(3);
    C.due("32: there are 30 still", x.seen(0, 0, true), NONE);
    C.due("32: about(8)", x.about(8), 30);
  }

  private static void promise33() {
    GuildCharter x = Check.made(PLAIN);
    C.due("33: none", x.untell(0), false);
    x.seen(0, 1, true);
    C.due("33: orders(0)", x.orders(0), 12);
    C.due("33: untell(1)", x.untell(1), false);
    for (int wrong : WRONG) {
      C.due("33: untell(wrong)", x.untell(wrong), false);
    }
    C.due("33: at the same time", x.untell(0), true);
    C.due("33: orders(0)", x.orders(0), 63);
    C.due("33: so already", x.untell(0), false);
    C.due("33: about(8)", x.about(8), 1);
  }

  private static void promise34() {
    GuildCharter x = new GuildCharter();
    C.due("34: later(0)", x.later(0), 0);
    C.due("34: later(1000)", x.later(1000), 1000);
    C.due("34: later(1001)", x.later(1001), NONE);
    C.due("34: later(-1)", x.later(-1), NONE);
    C.due("34: later(least)", x.later(Integer.MIN_VALUE), NONE);
    C.due("34: later(most)", x.later(Integer.MAX_VALUE), NONE);
    for (int i = 2; i < 100; i++) {
      C.due("34: later(1000)", x.later(1000), 1000 * i);
    }
    C.due("34: later(999)", x.later(999), 99999);
    C.due("34: later(2)", x.later(2), NONE);
    C.due("34: later(1)", x.later(1), 100000);
    C.due("34: later(0)", x.later(0), 100000);
    C.due("34: later(1)", x.later(1), NONE);
    C.due("34: about(9)", x.about(9), 100000);
  }

  private static void promise35() {
    GuildCharter x = Check.made(PLAIN);
    C.due("35: nothing seen", x.orders(0), 63);
    x.later(10);
    x.seen(0, 0, true);
    x.later(5);
    x.seen(1, 1, false);
    C.due("35: as known at 9", x.orders(9), 63);
    C.due("35: as known at 10", x.orders(10), 3);
    C.due("35: as known at 14", x.orders(14), 3);
    C.due("35: as known at 15", x.orders(15), 2);
    x.later(5);
    x.untell(0);
    C.due("35: as known at 19", x.orders(19), 2);
    C.due("35: as known at 20", x.orders(20), 2 + 4 + 8 + 16);
    C.due("35: as known later", x.orders(Integer.MAX_VALUE), 30);
    C.due("35: as known before all", x.orders(Integer.MIN_VALUE), 63);
    x.seen(0, 0, true);
    x.seen(0, 0, false);
    C.due("35: none can be", x.orders(20), 0);
    x.write(1);
    x.sell(1, 0);
    C.due("35: whatever is in earnest", x.orders(19), 2);
    C.due("35: no charter", new GuildCharter().orders(0), 0);
    C.due("35: spent", Check.made(LARGE).orders(0), -2);
  }

  private static void promise36() {
    GuildCharter x = Check.made(PLAIN);
    C.due("36: image(0)", x.image(0), 0);
    x.write(1);
    x.sell(2, 0);
    C.due("36: image(2)", x.image(2), 1);
    C.due("36: image(3)", x.image(3), NONE);
    for (int wrong : WRONG) {
      C.due("36: image(wrong)", x.image(wrong), NONE);
    }
    C.due("36: no act", x.about(6), 2);
    x.write(1);
    C.due("36: over another", x.image(2), 2);
    x.wipe();
    C.due("36: back(2)", x.back(2), 2);
  }

  private static void promise37() {
    GuildCharter x = Check.made(PLAIN);
    C.due("37: nothing was", x.back(0), NONE);
    x.write(1);
    x.sell(2, 0);
    x.image(0);
    x.write(2);
    x.write(2);
    x.undo();
    C.due("37: back(1)", x.back(1), NONE);
    C.due("37: back(3)", x.back(3), NONE);
    for (int wrong : WRONG) {
      C.due("37: back(wrong)", x.back(wrong), NONE);
    }
    C.due("37: nothing done", x.about(5), 2);
    C.due("37: back(0)", x.back(0), 1);
    C.due("37: word(0)", x.word(0), 1);
    C.due("37: word(1)", x.word(1), NONE);
    C.due("37: turn(2)", x.turn(2), 0);
    C.due("37: no act is kept", x.undo(), false);
    C.due("37: none to redo", x.redo(), false);
    C.due("37: gone on from", x.write(0), 2);
    C.due("37: once more", x.back(0), 1);
    C.due("37: the image stays as it was", x.word(1), NONE);
  }

  private static void promise38() {
    GuildCharter x = Check.made(PLAIN + "pair a b 1 2 3; length 3; turns 2 1;");
    x.write(0);
    x.write(1);
    x.sell(2, 0);
    x.undo();
    x.seen(0, 0, true);
    x.later(7);
    x.written(0);
    x.feed(1, 2, 3, 4, 5);
    int[] about = {3, 1, 2, 4, 3, 2, 2, 1, 1, 7, 20, 3};
    for (int i = 0; i < about.length; i++) {
      C.due("38: about(" + i + ")", x.about(i), about[i]);
    }
    C.due("38: about(12)", x.about(12), NONE);
    for (int wrong : WRONG) {
      C.due("38: about(wrong)", x.about(wrong), NONE);
    }
  }

  /** Behind a 1 + 7 + 21 + 63 + 441 rows, behind b and c 1 + 7 + 49 + 147 + 1029 each, and the empty one: 3,000. */
  private static void edgeOfSpent() {
    StringBuilder words = new StringBuilder();
    for (char c = 'a'; c <= 'h'; c++) {
      words.append("word ").append(c).append(" 50 50 50;");
    }
    String rest = "rule t = y z z y; rule u = y y z y; rule y = z or d or e or f or g; rule z = a or b or c; length 5;";
    GuildCharter x = Check.made(words + "rule s = a t or b u or c u;" + rest);
    C.due("3,000 rows, fit()", x.fit(), 441 + 2 * 1029);
    C.due("3,000 rows, best(0)", x.best(0), 0);
    C.due("3,000 rows, written(0)", x.written(0), 0);
    C.due("3,000 rows, held(7)", x.held(7), 0);
    C.due("3,000 rows, share(0, 1)", x.share(0, 1), 1);
    C.due("3,000 rows, bribe(0, 1)", x.bribe(0, 1), 1);
    C.due("3,000 rows, doubtful()", x.doubtful(), 0);
    C.due("3,000 rows, lots(0)", x.lots(0), 0);
    C.due("3,000 rows, orders(0)", x.orders(0), 63);
    x = Check.made(words + "rule s = a t or b u or c u or a v; rule v = a a a h;" + rest);
    C.due("3,001 rows, fit()", x.fit(), -2);
    C.due("3,001 rows, best(0)", x.best(0), GAP);
    C.due("3,001 rows, written(0)", x.written(0), GAP);
    C.due("3,001 rows, held(7)", x.held(7), GAP);
    C.due("3,001 rows, share(0, 1)", x.share(0, 1), GAP);
    C.due("3,001 rows, bribe(0, 1)", x.bribe(0, 1), NONE);
    C.due("3,001 rows, doubtful()", x.doubtful(), -2);
    C.due("3,001 rows, lots(0)", x.lots(0), GAP);
    C.due("3,001 rows, orders(0)", x.orders(0), -2);
    C.due("3,001 rows, next()", x.next(), 7);
    x.hole(4, 7);
    C.due("1 + 3 + 21 + 119 + 357 + 1 rows", x.fit(), 1);
    x.write(0);
    C.due("534 rows, bribe(4, 7)", x.bribe(4, 7), 1);
    C.due("534 rows, held(1)", x.held(1), 0);
    x.undo();
    C.due("3,001 rows again", x.held(1), GAP);
  }
}
