import java.util.function.ToIntFunction;

/**
 * Promises 1 to 38: for each sentence that names a boundary of a call's arguments or of the state, a
 * test of its own, at the boundary and on both its sides; refused calls do nothing.
 */
public final class CallBoundariesTest {
  private static final int NONE = GuildCharter.NONE;
  private static final int GAP = GuildCharter.GAP;
  private static final int CANNOT = -2;
  private static final int LEAST = Integer.MIN_VALUE;
  private static final int MOST = Integer.MAX_VALUE;
  /** Numbers far beyond any boundary, some of which would be small ones if they were cut to a byte or shifted. */
  private static final int[] FAR = {LEAST, LEAST + 1, -1000000, -256, -2, -1, 256, 257, 65536, 1000000, MOST - 1, MOST};
  private static final Check C = new Check("CallBoundariesTest");

  private static final String PLAIN = "word a 51 50 50; word b 50 51 50; word c 50 50 51; pair a b 55 40 50;"
      + "rule s = x x x; rule x = a or b or c;";
  private static final String NO_CHARTER = "word a 50 50 50; word b 50 50 50; word c 50 50 50; rule s = a;";
  /** Eight words, any six of them. */
  private static final String LARGE = "word a 51 50 50; word b 50 50 50; word c 50 50 50; word d 50 50 50; word e 50 50 50;"
      + "word f 50 50 50; word g 50 50 50; word h 50 50 50; rule s = x or x s;"
      + "rule x = a or b or c or d or e or f or g or h; length 6;";
  private static final String UNTOUCHED = Snapshot.of(rich());

  public static void main(String[] args) {
    newObjectTest();
    feedOrderTest();
    feedFullTest();
    endTest();
    portTest();
    portForgetsTest();
    portFaultTest();
    faultTest();
    worthTest();
    behindTest();
    turnTest();
    writeTest();
    sellTest();
    undoTest();
    redoTest();
    wipeTest();
    wordTest();
    nextTest();
    readingsTest();
    meansTest();
    writtenTest();
    heldTest();
    shareTest();
    swapTest();
    bribeTest();
    usedTest();
    shortestTest();
    doubtfulTest();
    lotsTest();
    holeTest();
    fitTest();
    bestTest();
    struckTest();
    liesTest();
    seenTest();
    untellTest();
    laterTest();
    ordersTest();
    imageTest();
    backTest();
    aboutTest();
    questionsTest();
    lastCallTest();
    C.finish();
  }

  // ---- what the tests share

  /** An object in which something of every sort is there: acts done and undone, sold turns, holes, SEEN ones, boxes, a tape. */
  private static GuildCharter rich() {
    GuildCharter x = Check.made(PLAIN);
    x.write(1);
    x.sell(2, 0);
    x.image(0);
    x.sell(1, 2);
    x.write(0);
    x.image(1);
    x.sell(2, 1);
    x.undo();
    x.hole(0, 1);
    x.seen(0, 0, true);
    x.later(1);
    x.seen(1, 1, false);
    x.untell(0);
    x.later(2);
    x.written(1);
    Check.port(x, "length 9;");
    x.end(0);
    Check.tape(x, "word z 53 1 1; length 2;");
    return x;
  }

  private static void untouched(String call, GuildCharter x) {
    C.due(call + " does nothing", Snapshot.of(x).equals(UNTOUCHED), true);
  }

  private static void refused(String call, int answer, ToIntFunction<GuildCharter> made) {
    GuildCharter x = rich();
    C.due(call, made.applyAsInt(x), answer);
    untouched(call, x);
  }

  private static int number(boolean answer) {
    return answer ? 1 : 0;
  }

  private static void lying(GuildCharter x, int... words) {
    C.due("about(11)", x.about(11), words.length);
    for (int i = 0; i < words.length; i++) {
      C.due("lies(" + i + ")", x.lies(i), words[i]);
    }
    C.due("lies(" + words.length + ")", x.lies(words.length), NONE);
  }

  /** From one below the least up to one above the most, and what is far from both. */
  private static int[] around(int least, int most) {
    int[] all = new int[most - least + 3 + FAR.length];
    for (int i = 0; i < most - least + 3; i++) {
      all[i] = least - 1 + i;
    }
    System.arraycopy(FAR, 0, all, most - least + 3, FAR.length);
    return all;
  }

  private static boolean within(int number, int least, int most) {
    return number >= least && number <= most;
  }

  // ---- promises 1 to 5

  private static void newObjectTest() {
    C.sentence("Promise 1: An empty PORT");
    GuildCharter x = new GuildCharter();
    for (int what = 0; what < 12; what++) {
      C.due("about(" + what + ")", x.about(what), what == 4 ? 3 : 0);
    }
    C.due("NONE", NONE, -1);
    C.due("GAP", GAP, -1000000);
    C.due("next()", x.next(), 0);
    C.due("fit()", x.fit(), 0);
    C.due("orders(0)", x.orders(0), 0);
    C.due("doubtful()", x.doubtful(), 0);
    for (int box = 0; box < 3; box++) {
      C.due("back(" + box + ")", x.back(box), NONE);
    }
    for (int place = 0; place < 3; place++) {
      C.due("turn(" + place + ")", x.turn(place), place);
      C.due("a hole", x.hole(place, NONE), true);
    }
    C.due("another object is another", new GuildCharter().about(10), 0);
    GuildCharter one = Check.made(PLAIN);
    GuildCharter other = new GuildCharter();
    one.write(0);
    C.due("another object is another", other.about(5), 0);
    C.due("another object is another", other.about(0), 0);
  }

  private static void feedOrderTest() {
    C.sentence("Promise 2: Twenty bytes come behind those on the TAPE, of each number the highest first");
    for (int at = 0; at < 20; at++) {
      int[] numbers = {0x20202020, 0x20202020, 0x20202020, 0x20202020, 0x20202020};
      int shift = 24 - 8 * (at % 4);
      for (int sign : new int[] {0x3f, 0, 0xff, 0x80}) {
        int[] n = numbers.clone();
        n[at / 4] = n[at / 4] & ~(255 << shift) | sign << shift;
        GuildCharter x = new GuildCharter();
        C.due("feed", x.feed(n[0], n[1], n[2], n[3], n[4]), 20);
        x.port();
        C.due("byte " + at + " is " + sign + ", fault(0)", x.fault(0), 1);
        C.due("byte " + at + " is " + sign + ", fault(1)", x.fault(1), at);
        x.end(0);
        x.feed(0x20202020, 0x20202020, 0x20202020, 0x20202020, 0x20202020);
        C.due("feed behind those", x.feed(n[0], n[1], n[2], n[3], n[4]), 40);
        x.port();
        C.due("byte " + (20 + at) + ", fault(1)", x.fault(1), 20 + at);
      }
    }
  }

  private static void feedFullTest() {
    C.sentence("Promise 2: how many there are; NONE, and nothing comes, if there would be more than 1,600");
    GuildCharter x = new GuildCharter();
    for (int times = 1; times <= 80; times++) {
      C.due("feed", x.feed(0x20202020, 0x20202020, 0x20202020, 0x20202020, 0x20202020), 20 * times);
    }
    C.due("1,620", x.feed(0x3f3f3f3f, 0, 0, 0, 0), NONE);
    C.due("about(10)", x.about(10), 1600);
    for (int size = 1582; size > 1578; size--) {
      x.end(size);
      boolean room = size + 20 <= 1600;
      C.due((size + 20) + " bytes", x.feed(0x20202020, 0x20202020, 0x20202020, 0x20202020, 0x20202020), room ? size + 20 : NONE);
      C.due("about(10)", x.about(10), room ? size + 20 : size);
    }
    x.end(1585);
    C.due("1,605", x.feed(0x3f3f3f3f, 0x3f3f3f3f, 0x3f3f3f3f, 0x3f3f3f3f, 0x3f3f3f3f), NONE);
    C.due("1,585 still", x.about(10), 1585);
    C.due("nothing came", x.port(), 0);
    C.due("nothing came", x.fault(0), 0);
  }

  private static void endTest() {
    C.sentence("Promise 3: The TAPE has its first n bytes: n; NONE, doing nothing, if it has not so many, or n is below 0");
    GuildCharter x = new GuildCharter();
    C.due("end(0) of none", x.end(0), 0);
    C.due("end(1) of none", x.end(1), NONE);
    Check.tape(x, "length 2; length 3;?");
    C.due("end(21)", x.end(21), NONE);
    C.due("end(20)", x.end(20), 20);
    C.due("end(19)", x.end(19), 19);
    C.due("end(20)", x.end(20), NONE);
    for (int far : FAR) {
      C.due("end(" + far + ")", x.end(far), NONE);
    }
    C.due("about(10)", x.about(10), 19);
    x.port();
    C.due("the first 19, fault(1)", x.fault(1), 10);
    C.due("end(9)", x.end(9), 9);
    C.due("the first 9", x.port(), 0);
    C.due("the first 9, about(4)", x.about(4), 2);
    C.due("the TAPE is empty then", x.end(1), NONE);
    C.due("end(0)", x.end(0), 0);
    refused("end(-1)", NONE, y -> y.end(-1));
    refused("end(25)", NONE, y -> y.end(25));
    refused("end(24)", 24, y -> y.end(24));
  }

  private static void portTest() {
    C.sentence("Promise 4: The TAPE (empty then) is the PORT (..): how many WORDS");
    StringBuilder text = new StringBuilder();
    for (int words = 0; words <= 8; words++) {
      GuildCharter x = new GuildCharter();
      C.due(words + " WORDS", Check.port(x, text.toString()), words);
      C.due("about(0)", x.about(0), words);
      C.due("the TAPE is empty", x.about(10), 0);
      C.due("so is the next PORT", x.port(), 0);
      C.due("about(0)", x.about(0), 0);
      text.append("word ").append((char) ('a' + words)).append(" 1 2 3;");
    }
    GuildCharter x = new GuildCharter();
    C.due("nine", Check.port(x, text.toString()), NONE);
  }

  private static void portForgetsTest() {
    C.sentence("Promise 4: (the ROW is WIPED, all PLACES are holes, SEEN ones are none, nothing lies there, BOXES are empty then; the TIME stays)");
    GuildCharter x = rich();
    x.image(0);
    x.image(1);
    x.image(2);
    C.due("port()", Check.port(x, PLAIN), 3);
    int[] anew = {3, 1, 2, 4, 3, 0, 0, 0, 0, 3, 0, 0};
    for (int what = 0; what < 12; what++) {
      C.due("about(" + what + ")", x.about(what), anew[what]);
    }
    for (int place = 0; place < 3; place++) {
      C.due("word(" + place + ")", x.word(place), NONE);
      C.due("turn(" + place + ")", x.turn(place), place);
      C.due("lies(" + place + ")", x.lies(place), NONE);
      C.due("back(" + place + ")", x.back(place), NONE);
    }
    C.due("undo()", x.undo(), false);
    C.due("redo()", x.redo(), false);
    C.due("fit()", x.fit(), 27);
    C.due("orders(9)", x.orders(9), 63);
    C.due("untell(0)", x.untell(0), false);
    C.due("untell(1)", x.untell(1), false);
    C.due("seen", x.seen(0, 0, true), 0);
    // The same ROWS and holes in other texts: a b and a c.
    x = Check.made("word a 50 50 50; word b 50 50 50; word c 55 50 50; rule s = a b; length 2;");
    for (int times = 0; times < 4; times++) {
      x.hole(0, 0);
      C.due("one FITS", x.fit(), 1 + times % 2);
      C.due("best(0)", x.best(0), times % 2 == 0 ? 0 : 5);
      x.write(0);
      C.due("written(0)", x.written(0), times % 2 == 0 ? 0 : 5);
      C.due("held(1)", x.held(1), 0);
      C.due("held(7)", x.held(7), times % 2 == 0 ? 0 : 6);
      // Guilds 0 and 1 have the second turn in two orders each, and like c.
      C.due("lots(0)", x.lots(0), times % 2 == 0 ? 0 : 4 * 5);
      String alt = times % 2 == 0 ? "a c or a b" : "a b";
      Check.port(x, "word a 50 50 50; word b 50 50 50; word c 55 51 50; rule s = " + alt + "; length 2;");
    }
    // The same answers, whatever text was there before: other words, pairs, rules, lengths, turns.
    String other = "word p 99 1 1; word q 1 99 1; word r 1 1 99; word t 60 60 60; pair p q 60 60 60; pair q p 40 70 50; pair q q 1 1 1;"
        + "rule s = x; rule x = y y or y y or p q; rule y = p or q or t; length 2; turns 2 0;";
    String[] texts = {PLAIN, other, NO_CHARTER, "", PLAIN + "length 3; turns 1;", LARGE};
    for (String first : texts) {
      for (String second : texts) {
        x = new GuildCharter();
        Check.port(x, first);
        ask(x);
        Check.port(x, second);
        String again = asked(x);
        C.due("[" + second + "] behind [" + first + "]", again.equals(asked(Check.made(second))), true);
        Check.port(x, first);
        Check.port(x, second);
        C.due("[" + second + "] twice behind [" + first + "]", asked(x).equals(again), true);
      }
    }
  }

  /** Has every kind of answer looked for, so that what is kept of them is there. */
  private static void ask(GuildCharter x) {
    x.seen(0, 1, true);
    x.hole(0, 1);
    x.write(1);
    x.sell(1, 2);
    x.image(0);
    asked(x);
    x.best(1);
  }

  private static String asked(GuildCharter x) {
    StringBuilder all = new StringBuilder();
    for (int guild = 0; guild < 3; guild++) {
      int[] answers = {x.written(guild), x.lies(0), x.lies(1), x.held(1 << guild), x.held(7 - (1 << guild)), x.share(guild, 0), x.share(guild, 1),
        x.lots(guild), x.best(guild), x.lies(0), x.lies(1), x.means(guild), x.turn(guild), x.behind(0, guild, 1), x.struck(guild),
        x.bribe(guild, 1), x.worth(guild, 0), x.about(guild), x.about(3 + guild), x.shortest(guild)};
      for (int answer : answers) {
        all.append(answer).append(' ');
      }
    }
    int[] answers = {x.swap(), x.doubtful(), x.lies(0), x.lies(1), x.fit(), x.orders(0), x.orders(9), x.used(), x.next(), x.readings()};
    for (int answer : answers) {
      all.append(answer).append(' ');
    }
    int size = x.about(5);
    for (int word = 0; word < 8; word++) {
      if (x.write(word) > size) {
        all.append(x.next()).append(' ').append(x.readings()).append(' ').append(x.held(7)).append(' ').append(x.written(0)).append(' ');
        x.undo();
      }
    }
    return all.toString();
  }

  private static void portFaultTest() {
    C.sentence("Promise 4: NONE: a FAULT (all stays)");
    GuildCharter x = rich();
    // The same fault as before, told by another text, and then the tape as it was: so nothing of it is to be seen.
    x.end(0);
    Check.tape(x, "length 9;");
    C.due("port()", x.port(), NONE);
    C.due("the TAPE stays", x.about(10), 9);
    C.due("port() again", x.port(), NONE);
    C.due("the TAPE stays", x.about(10), 9);
    x.end(0);
    Check.tape(x, "word z 53 1 1; length 2;");
    untouched("port()", x);
    String[] faulty = {"?", "word y 1 2 3; word", "word y 1 2 3; word y 1 2 3;", "turns 3;", "word y 1 2 3; pair y z 1 2 3; length 9;",
      "length 6; turns 2; word q 1 2 3; rule s = q or t;", "length 6; rule s = s; word q 1 2 3; word r 1 2 3; word o 99 99 99; word p 1 1 1;"};
    for (String text : faulty) {
      x = rich();
      x.end(0);
      Check.tape(x, text);
      C.due("[" + text + "]", x.port(), NONE);
      C.due("the TAPE stays", x.about(10), text.length());
      x.end(0);
      Check.tape(x, "length 9;");
      x.port();
      x.end(0);
      Check.tape(x, "word z 53 1 1; length 2;");
      untouched("[" + text + "]", x);
    }
    x = new GuildCharter();
    Check.tape(x, "length 4");
    C.due("no end", x.port(), NONE);
    Check.tape(x, ";");
    C.due("more comes behind it", x.port(), 0);
    C.due("about(4)", x.about(4), 4);
  }

  private static void faultTest() {
    C.sentence("Promise 5: Of the latest port() what 0: its FAULT (0), 1: its place (NONE). NONE for another what");
    GuildCharter x = new GuildCharter();
    C.due("none yet, fault(0)", x.fault(0), 0);
    C.due("none yet, fault(1)", x.fault(1), NONE);
    Check.port(x, "word a 1 2 100;");
    C.due("fault(0)", x.fault(0), 4);
    C.due("fault(1)", x.fault(1), 11);
    for (int what : around(0, 1)) {
      if (!within(what, 0, 1)) {
        C.due("fault(" + what + ")", x.fault(what), NONE);
      }
    }
    x.end(0);
    C.due("of the latest, fault(0)", x.fault(0), 4);
    x.port();
    C.due("none, fault(0)", x.fault(0), 0);
    C.due("none, fault(1)", x.fault(1), NONE);
    C.due("none, fault(2)", x.fault(2), NONE);
    Check.port(x, "?");
    C.due("another, fault(0)", x.fault(0), 1);
    C.due("another, fault(1)", x.fault(1), 0);
    Check.port(x, "rule s = a;");
    C.due("a third, fault(0)", x.fault(0), 6);
    C.due("a third, fault(1)", x.fault(1), 9);
  }

  // ---- promises 6 to 8

  private static void worthTest() {
    C.sentence("Promise 6: What a WORD is WORTH to a GUILD; GAP if one can't be");
    GuildCharter x = Check.made("word a 0 51 99; word b 98 50 1; word c 20 30 40;");
    int[] worths = {-50, 1, 49, 48, 0, -49, -30, -20, -10};
    for (int word : around(0, 2)) {
      for (int guild : new int[] {LEAST, -1, 0, 1, 2, 3, MOST}) {
        boolean can = within(word, 0, 2) && within(guild, 0, 2);
        C.due("worth(" + word + ", " + guild + ")", x.worth(word, guild), can ? worths[word * 3 + guild] : GAP);
      }
    }
    C.due("of an empty PORT", new GuildCharter().worth(0, 0), GAP);
    x = Check.made(LARGE);
    C.due("the last of 8", x.worth(7, 2), 0);
    C.due("behind the last of 8", x.worth(8, 2), GAP);
  }

  private static void behindTest() {
    C.sentence("Promise 7: What it is WORTH that a WORD stands directly behind another one (0 if it is no pair); GAP if one can't be");
    int[] worths = {0, 0, 0, -50, 49, 1, 0, 0, 0, -10, 0, 10};
    int[] numbers = {LEAST, -1, 0, 1, 2, 3, 8, MOST};
    for (int first : numbers) {
      GuildCharter x = Check.made("word a 1 1 1; word b 1 1 1; pair a b 0 99 51; pair b b 40 50 60;");
      for (int second : numbers) {
        for (int guild : numbers) {
          boolean can = within(first, 0, 1) && within(second, 0, 1) && within(guild, 0, 2);
          C.due("behind(" + first + ", " + second + ", " + guild + ")", x.behind(first, second, guild),
              can ? worths[(first * 2 + second) * 3 + guild] : GAP);
        }
      }
    }
    C.due("of an empty PORT", new GuildCharter().behind(0, 0, 0), GAP);
    C.due("the last of 8", Check.made(LARGE + "pair h h 1 2 99;").behind(7, 7, 2), 49);
  }

  private static void turnTest() {
    C.sentence("Promise 8: Whose turn a PLACE is, in earnest; NONE if there is none such");
    for (int length = 1; length <= 6; length++) {
      GuildCharter x = Check.made("length " + length + "; turns 2 1 0 0;");
      int[] turns = {2, 1, 0, 0, 2, 1};
      for (int place : around(0, length - 1)) {
        boolean can = within(place, 0, length - 1);
        C.due("length " + length + ", turn(" + place + ")", x.turn(place), can ? turns[place] : NONE);
      }
      x.sell(length - 1, 1);
      C.due("SOLD", x.turn(length - 1), 1);
    }
    GuildCharter x = Check.made(PLAIN);
    x.sell(1, 0);
    x.write(0);
    x.write(0);
    C.due("of a written PLACE", x.turn(0), 0);
    C.due("of a SOLD and written PLACE", x.turn(1), 0);
  }

  // ---- promises 9 to 13

  private static void writeTest() {
    C.sentence("Promise 9: A WORD comes in earnest: how many there are; NONE, doing nothing, if it can't. (An ACT.)");
    for (int word : around(0, 2)) {
      if (!within(word, 0, 2)) {
        refused("write(" + word + ")", NONE, x -> x.write(word));
      }
    }
    for (int word = 0; word < 3; word++) {
      GuildCharter x = Check.made(PLAIN);
      for (int size = 1; size <= 3; size++) {
        C.due("write(" + word + ")", x.write(word), size);
        C.due("an ACT", x.about(6), size);
      }
      C.due("behind the last PLACE", x.write(word), NONE);
      C.due("no ACT", x.about(6), 3);
      C.due("about(5)", x.about(5), 3);
    }
    GuildCharter x = Check.made("word a 50 50 50; word b 50 50 50; rule s = a b or b; length 2;");
    C.due("it can't GO ON", x.write(1), NONE);
    C.due("about(5)", x.about(5), 0);
    C.due("about(6)", x.about(6), 0);
    C.due("it can", x.write(0), 1);
    x.undo();
    C.due("it can't", x.write(1), NONE);
    C.due("what was taken back stays so", x.about(7), 1);
    C.due("no CHARTER can be", Check.made(NO_CHARTER).write(0), NONE);
    C.due("in an empty PORT", new GuildCharter().write(0), NONE);
    x = Check.made(LARGE);
    C.due("though it is SPENT", x.write(7), 1);
  }

  private static void sellTest() {
    C.sentence("Promise 10: A turn is SOLD: whose it was; NONE, doing nothing, if one can't be. (An ACT.)");
    // In rich() two WORDS are written.
    for (int place : around(2, 2)) {
      if (place != 2) {
        refused("sell(" + place + ", 1)", NONE, x -> x.sell(place, 1));
      }
    }
    refused("sell(0, 1)", NONE, x -> x.sell(0, 1));
    for (int guild : around(0, 2)) {
      if (!within(guild, 0, 2)) {
        refused("sell(2, " + guild + ")", NONE, x -> x.sell(2, guild));
      }
    }
    GuildCharter x = rich();
    for (int guild = 0; guild < 3; guild++) {
      C.due("sell(2, " + guild + ")", x.sell(2, guild), guild == 0 ? 0 : guild - 1);
      C.due("turn(2)", x.turn(2), guild);
      C.due("an ACT", x.about(6), 5 + guild);
      C.due("none is to be redone", x.about(7), 0);
    }
    x = Check.made("length 6;");
    C.due("the first PLACE", x.sell(0, 1), 0);
    C.due("the last PLACE", x.sell(5, 1), 2);
    C.due("behind the last PLACE", x.sell(6, 1), NONE);
    x = new GuildCharter();
    C.due("in an empty PORT", x.sell(2, 0), 2);
    C.due("in an empty PORT, behind the last", x.sell(3, 0), NONE);
  }

  private static void undoTest() {
    C.sentence("Promise 11: UNDO: true; false if there is none");
    GuildCharter x = Check.made(PLAIN);
    C.due("of none", x.undo(), false);
    x.write(2);
    C.due("of one", x.undo(), true);
    C.due("of none", x.undo(), false);
    C.due("about(5)", x.about(5), 0);
    x = rich();
    for (int left = 3; left >= 0; left--) {
      C.due("of " + (left + 1), x.undo(), true);
      C.due("about(6)", x.about(6), left);
      C.due("about(7)", x.about(7), 5 - left);
    }
    C.due("of none", x.undo(), false);
    C.due("about(7)", x.about(7), 5);
    x = rich();
    x.redo();
    x.undo();
    untouched("redo() and undo()", x);
    x = rich();
    Check.port(x, PLAIN);
    C.due("of none, behind a new text", x.undo(), false);
  }

  private static void redoTest() {
    C.sentence("Promise 12: REDO: true; false if there is none");
    GuildCharter x = Check.made(PLAIN);
    C.due("of none", x.redo(), false);
    x.write(2);
    C.due("of none that was taken back", x.redo(), false);
    x.undo();
    C.due("of one", x.redo(), true);
    C.due("of none", x.redo(), false);
    C.due("word(0)", x.word(0), 2);
    x = rich();
    for (int undone = 0; undone < 4; undone++) {
      x.undo();
    }
    for (int left = 4; left >= 0; left--) {
      C.due("of " + (left + 1), x.redo(), true);
      C.due("about(7)", x.about(7), left);
    }
    C.due("of none", x.redo(), false);
    C.due("the last one", x.turn(2), 1);
    x = rich();
    x.undo();
    x.redo();
    untouched("undo() and redo()", x);
    refused("redo() of none, behind another", 0, y -> {
      y.redo();
      int answer = number(y.redo());
      y.undo();
      return answer;
    });
  }

  private static void wipeTest() {
    C.sentence("Promise 13: WIPED: how many WORDS there were");
    for (int size = 0; size <= 3; size++) {
      GuildCharter x = Check.made(PLAIN);
      for (int i = 0; i < size; i++) {
        x.write(0);
      }
      C.due("of " + size, x.wipe(), size);
      C.due("of none", x.wipe(), 0);
      C.due("about(5)", x.about(5), 0);
    }
    GuildCharter x = rich();
    C.due("wipe()", x.wipe(), 2);
    C.due("holes stay", x.fit(), 9);
    C.due("SEEN ones stay", x.about(8), 2);
    C.due("what lies there stays", x.about(11), 3);
    C.due("BOXES stay", x.back(1), 2);
    C.due("and their turns", x.turn(1), 2);
    C.due("the TAPE stays", x.about(10), 24);
  }

  // ---- promises 14 to 17

  private static void wordTest() {
    C.sentence("Promise 14: The WORD at a PLACE in earnest; NONE if there is none");
    GuildCharter x = Check.made(PLAIN);
    for (int size = 0; size <= 3; size++) {
      for (int place : around(0, 3)) {
        C.due(size + " written, word(" + place + ")", x.word(place), within(place, 0, size - 1) ? 2 - place : NONE);
      }
      x.write(2 - size);
    }
    x.undo();
    C.due("taken back", x.word(2), NONE);
    C.due("not taken back", x.word(1), 1);
  }

  private static void nextTest() {
    C.sentence("Promise 15: WORDS that can come next in earnest, as bits");
    GuildCharter x = Check.made(PLAIN);
    for (int size = 0; size < 3; size++) {
      C.due("behind " + size, x.next(), 7);
      x.write(size);
    }
    C.due("behind all", x.next(), 0);
    C.due("in an empty PORT", new GuildCharter().next(), 0);
    C.due("no CHARTER can be", Check.made(NO_CHARTER).next(), 0);
    C.due("8 WORDS", Check.made(LARGE).next(), 255);
    C.due("the first of 8", Check.made(LARGE.replace("rule s = x or x s;", "rule s = a x x x;").replace("length 6", "length 4")).next(), 1);
    C.due("the last of 8", Check.made(LARGE.replace("rule s = x or x s;", "rule s = h x x x;").replace("length 6", "length 4")).next(), 128);
  }

  private static void readingsTest() {
    C.sentence("Promise 16: READINGS of the ROW in earnest (0 if it is empty)");
    GuildCharter x = Check.made("word a 50 50 50; word b 50 50 50; rule s = s s or a or b or b; length 3;");
    C.due("empty", x.readings(), 0);
    x.write(0);
    C.due("a", x.readings(), 1);
    x.write(1);
    C.due("a b", x.readings(), 2);
    x.write(1);
    C.due("a b b", x.readings(), 8);
    x.undo();
    C.due("a b", x.readings(), 2);
    x.write(0);
    C.due("a b a", x.readings(), 4);
    x.doubtful();
    C.due("a b a still", x.readings(), 4);
    x.wipe();
    C.due("empty again", x.readings(), 0);
    x.write(1);
    C.due("b", x.readings(), 2);
    x.write(1);
    C.due("b b", x.readings(), 4);
    x.undo();
    x.write(0);
    C.due("b a", x.readings(), 2);
    x.undo();
    x.undo();
    x.write(0);
    x.write(0);
    C.due("a a", x.readings(), 1);
    C.due("in an empty PORT", new GuildCharter().readings(), 0);
    Check.port(x, "word a 50 50 50; rule s = a a or a a or a a; length 2;");
    x.write(0);
    C.due("of another text, a", x.readings(), 0);
    x.write(0);
    C.due("of another text, a a", x.readings(), 3);
  }

  private static void meansTest() {
    C.sentence("Promise 17: What the ROW in earnest MEANS to a GUILD; GAP if there is none such");
    GuildCharter x = Check.made(PLAIN);
    int[][] means = {{0, 0, 0}, {1, 0, 0}, {6, -9, 0}, {6, -9, 1}};
    for (int size = 0; size <= 3; size++) {
      for (int guild : around(0, 2)) {
        C.due("means(" + guild + ") of " + size, x.means(guild), within(guild, 0, 2) ? means[size][guild] : GAP);
      }
      x.write(size);
    }
    C.due("in an empty PORT", new GuildCharter().means(0), 0);
    C.due("in an empty PORT, no GUILD", new GuildCharter().means(3), GAP);
  }

  // ---- promises 18 to 22

  private static void writtenTest() {
    C.sentence("Promise 18: GAP if it can't GO ON (and is no CHARTER), there is none such, or SPENT. The CHARTER lies there then (behind GAP: nothing)");
    GuildCharter x = Check.made(PLAIN);
    // Guild 0 writes a; behind it b would cost guild 1 nine, a and c nothing, so a; guild 2 writes c.
    int[] due = {2, 0, 1};
    for (int guild : around(0, 2)) {
      boolean can = within(guild, 0, 2);
      x.best(0);
      C.due("written(" + guild + ")", x.written(guild), can ? due[guild] : GAP);
      if (can) {
        lying(x, 0, 0, 2);
      } else {
        lying(x);
      }
    }
    x = Check.made("word a 50 50 50; word b 51 50 50; rule s = a b; length 2;");
    x.write(0);
    x.write(1);
    C.due("of a CHARTER", x.written(0), 1);
    lying(x, 0, 1);
    C.due("of a CHARTER, no GUILD", x.written(3), GAP);
    lying(x);
    x = Check.made(NO_CHARTER);
    C.due("it can't GO ON", x.written(0), GAP);
    lying(x);
    C.due("in an empty PORT", new GuildCharter().written(0), GAP);
    x = Check.made(LARGE);
    for (int place = 0; place < 6; place++) {
      x.hole(place, 3);
    }
    x.best(0);
    lying(x, 3, 3, 3, 3, 3, 3);
    C.due("SPENT", x.written(0), GAP);
    lying(x);
    // Behind b a guild 0 has the last turn and writes b, as the pair is worth 5 to him: 1 + 1 - 10 to guild 1.
    refused("written(3)", -8, y -> {
      y.written(3);
      return y.written(1);
    });
  }

  private static void heldTest() {
    C.sentence("Promise 19: HELD together by a set of GUILDS (bits, 1 .. 7) from the ROW in earnest on: the sum; GAP likewise");
    GuildCharter x = Check.made(PLAIN.replace("pair a b 55 40 50;", ""));
    int[] held = {GAP, 1, 1, 2, 1, 2, 2, 3};
    for (int guilds : around(1, 7)) {
      C.due("held(" + guilds + ")", x.held(guilds), within(guilds, 1, 7) ? held[guilds] : GAP);
    }
    for (int guilds = 0; guilds <= 8; guilds++) {
      C.due("no CHARTER can be", Check.made(NO_CHARTER).held(guilds), GAP);
      C.due("SPENT", Check.made(LARGE).held(guilds), GAP);
    }
    x.write(2);
    x.write(2);
    x.write(2);
    int[] there = {GAP, 0, 0, 0, 3, 3, 3, 3};
    for (int guilds : around(1, 7)) {
      C.due("of a CHARTER, held(" + guilds + ")", x.held(guilds), within(guilds, 1, 7) ? there[guilds] : GAP);
    }
    C.due("in an empty PORT", new GuildCharter().held(7), GAP);
  }

  private static void shareTest() {
    C.sentence("Promise 20: what 0: its upper part, 1: its lower part, in lowest terms; GAP likewise, or for another what");
    GuildCharter x = Check.made("word a 50 50 50; word b 52 49 50; rule s = a or b; length 1; turns 2;");
    int[][] parts = {{5, 6}, {-2, 3}, {5, 6}};
    for (int guild : around(0, 2)) {
      for (int what : around(0, 1)) {
        boolean can = within(guild, 0, 2) && within(what, 0, 1);
        C.due("share(" + guild + ", " + what + ")", x.share(guild, what), can ? parts[guild][what] : GAP);
      }
    }
    C.due("no CHARTER can be", Check.made(NO_CHARTER).share(0, 1), GAP);
    C.due("SPENT", Check.made(LARGE).share(0, 1), GAP);
    C.due("in an empty PORT", new GuildCharter().share(0, 0), GAP);
  }

  private static void swapTest() {
    C.sentence("Promise 21: 10 * the first PLACE and the second; NONE if there is none, no CHARTER can be, or SPENT");
    // As told a a is written, changed about b b.
    String game = "word a 50 50 50; word b 50 50 50; word z 50 50 50; pair a b 55 49 50; pair b a 49 55 50; pair b b 53 53 50; rule x = a or b;";
    String[] alts = {"x x", "z x x", "z z x x"};
    int[] due = {1, 12, 23};
    for (int i = 0; i < 3; i++) {
      String text = "rule s = " + alts[i] + ";" + game + "length " + (i + 2) + "; turns" + " 2".repeat(i) + " 0 1;";
      GuildCharter x = Check.made(text);
      C.due(alts[i], x.swap(), due[i]);
      C.due("it is not done", x.turn(i), 0);
    }
    GuildCharter x = Check.made("rule s = v x x; rule v = z z z z;" + game + "length 6; turns 2 2 2 2 0 1;");
    C.due("the last two of six", x.swap(), 45);
    C.due("there is none", Check.made(PLAIN).swap(), NONE);
    C.due("no CHARTER can be", Check.made(NO_CHARTER).swap(), NONE);
    C.due("SPENT", Check.made(LARGE).swap(), NONE);
    C.due("in an empty PORT", new GuildCharter().swap(), NONE);
    x = Check.made("rule s = x;" + game + "length 1;");
    C.due("of one PLACE", x.swap(), NONE);
  }

  private static void bribeTest() {
    C.sentence("Promise 22: NONE if none is enough, no CHARTER can be, or SPENT; -2 if one can't be (a PLACE that is written, too)");
    String[] texts = {PLAIN.replace("pair a b 55 40 50;", ""), NO_CHARTER};
    // Of like ones the first WORD: one ahead of what is written must only be as good, one behind it better.
    int[] bribes = {0, 2, 2, 1, 0, 2, 1, 1, 0};
    for (int place : around(0, 2)) {
      for (int word : around(0, 2)) {
        boolean can = within(place, 0, 2) && within(word, 0, 2);
        C.due("bribe(" + place + ", " + word + ")", Check.made(texts[0]).bribe(place, word), can ? bribes[place * 3 + word] : CANNOT);
        C.due("no CHARTER can be, bribe(" + place + ", " + word + ")", Check.made(texts[1]).bribe(place, word), can ? NONE : CANNOT);
      }
    }
    GuildCharter x = Check.made(texts[0]);
    for (int size = 0; size <= 3; size++) {
      for (int place = 0; place < 3; place++) {
        C.due(size + " written, bribe(" + place + ", 1)", x.bribe(place, 1), place < size ? CANNOT : bribes[place * 3 + 1]);
      }
      x.write(0);
    }
    x = Check.made(LARGE);
    C.due("SPENT", x.bribe(0, 0), NONE);
    C.due("SPENT, the last of all", x.bribe(5, 7), NONE);
    C.due("SPENT, no such PLACE", x.bribe(6, 7), CANNOT);
    C.due("SPENT, no such WORD", x.bribe(5, 8), CANNOT);
    C.due("in an empty PORT", new GuildCharter().bribe(0, 0), CANNOT);
  }

  // ---- promises 23 to 26

  private static void usedTest() {
    C.sentence("Promise 23: RULES that are OF USE, as bits");
    StringBuilder text = new StringBuilder("word a 50 50 50;");
    C.due("no RULES", Check.made(text.toString()).used(), 0);
    for (int rules = 1; rules <= 8; rules++) {
      char name = (char) ('p' + rules - 1);
      String last = "rule " + name + " = a;";
      C.due(rules + " RULES", Check.made(text + last).used(), (1 << rules) - 1);
      C.due(rules + " RULES, the last READS none", Check.made(text + "rule " + name + " = " + name + " a;").used(), 0);
      text.append("rule ").append(name).append(" = ").append((char) (name + 1)).append(";");
    }
    C.due("in an empty PORT", new GuildCharter().used(), 0);
  }

  private static void shortestTest() {
    C.sentence("Promise 24: SHORTEST of a RULE; 0 if it READS none; NONE if there is no such RULE");
    GuildCharter x = Check.made("word a 50 50 50; rule s = a a; rule t = t t; rule u = s a;");
    int[] sizes = {2, 0, 3};
    for (int rule : around(0, 2)) {
      C.due("shortest(" + rule + ")", x.shortest(rule), within(rule, 0, 2) ? sizes[rule] : NONE);
    }
    C.due("in an empty PORT", new GuildCharter().shortest(0), NONE);
    x = Check.made("rule s = s s;");
    C.due("without WORDS", x.shortest(0), 0);
    C.due("without WORDS, another", x.shortest(1), NONE);
  }

  private static void doubtfulTest() {
    C.sentence("Promise 25: DOUBTFUL: its READINGS; 0 if there is none; -2 if SPENT. It lies there then (behind 0, -2: nothing)");
    GuildCharter x = Check.made("word a 50 50 50; word b 50 50 50; rule s = a a or a b or a b or a b or b b or b b; length 2;");
    C.due("three", x.doubtful(), 3);
    lying(x, 0, 1);
    x = Check.made(PLAIN);
    x.written(0);
    C.due("about(11)", x.about(11), 3);
    C.due("none", x.doubtful(), 0);
    lying(x);
    x = Check.made(LARGE);
    for (int place = 0; place < 6; place++) {
      x.hole(place, 3);
    }
    x.best(0);
    C.due("about(11)", x.about(11), 6);
    C.due("SPENT", x.doubtful(), CANNOT);
    lying(x);
    C.due("no CHARTER can be", Check.made(NO_CHARTER).doubtful(), 0);
  }

  private static void lotsTest() {
    C.sentence("Promise 26: LOTS of a GUILD; GAP if no CHARTER can be, there is none such, or SPENT");
    GuildCharter x = Check.made(PLAIN.replace("pair a b 55 40 50;", ""));
    for (int guild : around(0, 2)) {
      C.due("lots(" + guild + ")", x.lots(guild), within(guild, 0, 2) ? 6 : GAP);
      C.due("no CHARTER can be", Check.made(NO_CHARTER).lots(guild), GAP);
      C.due("SPENT", Check.made(LARGE).lots(guild), GAP);
    }
    C.due("in an empty PORT", new GuildCharter().lots(0), GAP);
  }

  // ---- promises 27 to 31

  private static void holeTest() {
    C.sentence("Promise 27: The PLACE of the ROW for HOLES is a WORD, or a hole (NONE): true; false, doing nothing, if one can't be");
    for (int place : around(0, 2)) {
      for (int word : new int[] {-1, 0, 2}) {
        if (!within(place, 0, 2)) {
          refused("hole(" + place + ", " + word + ")", 0, x -> number(x.hole(place, word)));
        }
      }
    }
    for (int word : around(-1, 2)) {
      if (!within(word, -1, 2)) {
        refused("hole(0, " + word + ")", 0, x -> number(x.hole(0, word)));
        refused("hole(2, " + word + ")", 0, x -> number(x.hole(2, word)));
      }
    }
    for (int place = 0; place < 3; place++) {
      for (int word = 0; word < 3; word++) {
        GuildCharter x = Check.made(PLAIN);
        C.due("hole(" + place + ", " + word + ")", x.hole(place, word), true);
        C.due("fit()", x.fit(), 9);
        x.best(2);
        C.due("it is there", x.lies(place), word);
        C.due("again", x.hole(place, word), true);
        C.due("fit()", x.fit(), 9);
        C.due("a hole", x.hole(place, NONE), true);
        C.due("fit()", x.fit(), 27);
        C.due("a hole again", x.hole(place, NONE), true);
        C.due("fit()", x.fit(), 27);
      }
    }
    GuildCharter x = Check.made(LARGE);
    for (int place = 0; place < 6; place++) {
      C.due("the last WORD at " + place, x.hole(place, 7), true);
    }
    C.due("one", x.fit(), 1);
    C.due("its worth", x.best(0), 0);
    lying(x, 7, 7, 7, 7, 7, 7);
    C.due("behind the last WORD", x.hole(5, 8), false);
    C.due("behind the last PLACE", x.hole(6, 7), false);
  }

  private static void fitTest() {
    C.sentence("Promise 28: How many FIT; -2 if SPENT");
    GuildCharter x = Check.made(LARGE);
    C.due("SPENT", x.fit(), CANNOT);
    x.hole(0, 0);
    x.hole(1, 0);
    C.due("SPENT on 1 + 1 + 1 + 8 + 64 + 512 + 4096", x.fit(), CANNOT);
    x.hole(2, 0);
    C.due("512", x.fit(), 512);
    x.hole(3, 0);
    C.due("64", x.fit(), 64);
    x.hole(4, 0);
    C.due("8", x.fit(), 8);
    x.hole(5, 0);
    C.due("1", x.fit(), 1);
    C.due("none", Check.made(NO_CHARTER).fit(), 0);
    C.due("in an empty PORT", new GuildCharter().fit(), 0);
    x = Check.made("word a 50 50 50; word b 50 50 50; rule s = a b; length 2;");
    C.due("one", x.fit(), 1);
    x.hole(0, 1);
    C.due("none with b", x.fit(), 0);
  }

  private static void bestTest() {
    C.sentence("Promise 29: GAP if none does, there is none such, or SPENT. It lies there then (behind GAP: nothing)");
    GuildCharter x = Check.made(PLAIN.replace("pair a b 55 40 50;", ""));
    for (int guild : around(0, 2)) {
      x.written(0);
      boolean can = within(guild, 0, 2);
      C.due("best(" + guild + ")", x.best(guild), can ? 3 : GAP);
      if (can) {
        lying(x, guild, guild, guild);
      } else {
        lying(x);
      }
    }
    x = Check.made("word a 50 50 50; word b 50 50 50; rule s = a b; length 2;");
    C.due("one does", x.best(0), 0);
    lying(x, 0, 1);
    x.hole(0, 1);
    C.due("none does", x.best(0), GAP);
    lying(x);
    x = Check.made(LARGE);
    for (int place = 0; place < 5; place++) {
      x.write(0);
    }
    x.written(0);
    C.due("about(11)", x.about(11), 6);
    C.due("SPENT", x.best(0), GAP);
    lying(x);
    C.due("no CHARTER can be", Check.made(NO_CHARTER).best(0), GAP);
  }

  private static void struckTest() {
    C.sentence("Promise 30: STRUCK for a GUILD: the PLACE; NONE if none can be, it is no SENTENCE, or there is none such");
    GuildCharter x = Check.made("word a 50 52 51; word b 51 50 52; word c 52 51 50; rule s = x x x or x x; rule x = a or b or c;");
    C.due("empty", x.struck(0), NONE);
    x.write(0);
    C.due("no SENTENCE", x.struck(0), NONE);
    x.write(1);
    C.due("none can be", x.struck(0), NONE);
    x.write(2);
    for (int guild : around(0, 2)) {
      C.due("struck(" + guild + ")", x.struck(guild), within(guild, 0, 2) ? guild : NONE);
    }
    C.due("in an empty PORT", new GuildCharter().struck(0), NONE);
  }

  private static void liesTest() {
    C.sentence("Promise 31: The i-th WORD of what lies there; NONE if there is none such");
    GuildCharter x = Check.made("word a 50 50 50; word b 50 50 50; rule s = b a b; length 3;");
    for (int i : around(0, 2)) {
      C.due("nothing, lies(" + i + ")", x.lies(i), NONE);
    }
    x.written(0);
    int[] words = {1, 0, 1};
    for (int i : around(0, 2)) {
      C.due("lies(" + i + ")", x.lies(i), within(i, 0, 2) ? words[i] : NONE);
    }
    x.written(3);
    for (int i : around(0, 2)) {
      C.due("nothing again, lies(" + i + ")", x.lies(i), NONE);
    }
    x = Check.made("word a 50 50 50; rule s = a or a s; length 6;");
    x.best(0);
    C.due("the last of six", x.lies(5), 0);
    C.due("behind the last of six", x.lies(6), NONE);
  }

  // ---- promises 32 to 35

  private static void seenTest() {
    C.sentence("Promise 32: its number; NONE, doing nothing, if one can't be, or there are 30");
    for (int place : around(0, 2)) {
      if (!within(place, 0, 2)) {
        refused("seen(" + place + ", 0, true)", NONE, x -> x.seen(place, 0, true));
      }
    }
    for (int word : around(0, 2)) {
      if (!within(word, 0, 2)) {
        refused("seen(0, " + word + ", false)", NONE, x -> x.seen(0, word, false));
      }
    }
    GuildCharter x = Check.made(PLAIN);
    for (int number = 0; number < 30; number++) {
      C.due("seen", x.seen(number % 3, number / 3 % 3, false), number);
    }
    for (int place = 0; place < 3; place++) {
      C.due("there are 30", x.seen(place, 2, true), NONE);
    }
    C.due("about(8)", x.about(8), 30);
    C.due("none can have been", x.orders(0), 0);
    for (int number = 0; number < 30; number++) {
      x.untell(number);
    }
    C.due("there are 30", x.seen(0, 2, true), NONE);
    C.due("any can have been", x.orders(0), 63);
    C.due("in an empty PORT", new GuildCharter().seen(0, 0, true), NONE);
  }

  private static void untellTest() {
    C.sentence("Promise 33: It is UNTOLD: true; false if it is so already, or there is none such");
    // In rich() 0 is UNTOLD, 1 is not.
    for (int number : around(0, 1)) {
      if (number != 1) {
        refused("untell(" + number + ")", 0, x -> number(x.untell(number)));
      }
    }
    GuildCharter x = rich();
    C.due("untell(1)", x.untell(1), true);
    C.due("untell(1) again", x.untell(1), false);
    C.due("untell(2)", x.untell(2), false);
    C.due("about(8)", x.about(8), 2);
    x = Check.made(PLAIN);
    C.due("none", x.untell(0), false);
    for (int number = 0; number < 30; number++) {
      x.seen(0, 0, true);
    }
    C.due("behind the last of 30", x.untell(30), false);
    C.due("the last of 30", x.untell(29), true);
    C.due("the first of 30", x.untell(0), true);
  }

  private static void laterTest() {
    C.sentence("Promise 34: So much later (0 .. 1000): the TIME; NONE, doing nothing, for another number, or if it would be above 100,000");
    for (int by : around(0, 1000)) {
      if (!within(by, 0, 1000)) {
        refused("later(" + by + ")", NONE, x -> x.later(by));
      }
    }
    refused("later(0)", 3, x -> x.later(0));
    for (int by : new int[] {0, 1, 2, 999, 1000}) {
      C.due("later(" + by + ")", new GuildCharter().later(by), by);
    }
    for (int start = 999; start <= 1000; start++) {
      GuildCharter x = new GuildCharter();
      int time = 0;
      for (int times = 0; times < 99; times++) {
        time += 1000;
        C.due("later(1000)", x.later(1000), time);
      }
      C.due("later(1001)", x.later(1001), NONE);
      C.due("later(" + start + ")", x.later(start), 99000 + start);
      C.due("1,000 more", x.later(1000), NONE);
      C.due("to 100,001", x.later(1001 - start), NONE);
      C.due("about(9)", x.about(9), 99000 + start);
      C.due("to 100,000", x.later(1000 - start), 100000);
      C.due("no later", x.later(0), 100000);
      C.due("to 100,001", x.later(1), NONE);
      C.due("about(9)", x.about(9), 100000);
    }
  }

  private static void ordersTest() {
    C.sentence("Promise 35: ORDERS (0 if no CHARTER can be); -2 if SPENT");
    GuildCharter x = Check.made(NO_CHARTER);
    C.due("no CHARTER can be", x.orders(0), 0);
    C.due("in an empty PORT", new GuildCharter().orders(0), 0);
    x = Check.made(LARGE);
    C.due("SPENT", x.orders(0), CANNOT);
    x.seen(0, 0, true);
    x.seen(0, 0, false);
    C.due("SPENT, whatever was SEEN", x.orders(0), CANNOT);
    for (int k : FAR) {
      C.due("SPENT, orders(" + k + ")", x.orders(k), CANNOT);
      C.due("no CHARTER can be, orders(" + k + ")", Check.made(NO_CHARTER).orders(k), 0);
      C.due("nothing SEEN, orders(" + k + ")", Check.made(PLAIN).orders(k), 63);
    }
  }

  // ---- promises 36 to 38

  private static void imageTest() {
    C.sentence("Promise 36: The ROW, SOLD turns are kept in a BOX 0 .. 2: how many WORDS; NONE if there is none such");
    for (int box : around(0, 2)) {
      if (!within(box, 0, 2)) {
        refused("image(" + box + ")", NONE, x -> x.image(box));
      }
    }
    GuildCharter x = Check.made(PLAIN);
    for (int size = 0; size <= 3; size++) {
      for (int box = 0; box < 3; box++) {
        C.due(size + " written, image(" + box + ")", x.image(box), size);
      }
      x.write(1);
    }
    x = Check.made(PLAIN);
    for (int box = 0; box < 3; box++) {
      x.image(box);
      x.write(2 - box);
      x.sell(2, box);
    }
    for (int box = 2; box >= 0; box--) {
      C.due("back(" + box + ")", x.back(box), box);
      C.due("box " + box + ", word(0)", x.word(0), box == 0 ? NONE : 2);
      C.due("box " + box + ", word(1)", x.word(1), box < 2 ? NONE : 1);
      C.due("box " + box + ", turn(2)", x.turn(2), box == 0 ? 2 : box - 1);
    }
    C.due("over another", x.image(2), 0);
    x.write(0);
    C.due("back(2)", x.back(2), 0);
    C.due("back(1)", x.back(1), 1);
    C.due("an image is no ACT", x.image(0), 1);
    C.due("about(6)", x.about(6), 0);
  }

  private static void backTest() {
    C.sentence("Promise 37: All is as it was kept (no ACT is kept then): how many WORDS; NONE, doing nothing, if nothing was");
    // In rich() box 2 is empty.
    for (int box : around(0, 2)) {
      if (!within(box, 0, 1)) {
        refused("back(" + box + ")", NONE, x -> x.back(box));
      }
    }
    GuildCharter x = rich();
    C.due("back(1)", x.back(1), 2);
    C.due("about(6)", x.about(6), 0);
    C.due("about(7)", x.about(7), 0);
    C.due("undo()", x.undo(), false);
    C.due("redo()", x.redo(), false);
    C.due("turn(1)", x.turn(1), 2);
    C.due("turn(2)", x.turn(2), 0);
    C.due("back(0)", x.back(0), 1);
    C.due("word(0)", x.word(0), 1);
    C.due("word(1)", x.word(1), NONE);
    C.due("turn(1)", x.turn(1), 1);
    C.due("turn(2)", x.turn(2), 0);
    C.due("holes stay", x.fit(), 9);
    C.due("SEEN ones stay", x.about(8), 2);
    C.due("the TIME stays", x.about(9), 3);
    C.due("what lies there stays", x.about(11), 3);
    C.due("means(1)", x.means(1), 1);
    x.wipe();
    x.write(2);
    x.write(2);
    x.write(2);
    C.due("another ROW was there", x.back(0), 1);
    C.due("word(0)", x.word(0), 1);
    C.due("turn(2)", x.turn(2), 0);
    C.due("it can go on", x.write(0), 2);
    C.due("an ACT", x.about(6), 1);
    C.due("held(7) from it", x.held(7), 1 + 1 + 1);
  }

  private static void aboutTest() {
    C.sentence("Promise 38: What 0: WORDS, .. 11: how many lie there. NONE for another what");
    GuildCharter x = rich();
    int[] about = {3, 1, 2, 4, 3, 2, 4, 1, 2, 3, 24, 3};
    for (int what : around(0, 11)) {
      C.due("about(" + what + ")", x.about(what), within(what, 0, 11) ? about[what] : NONE);
    }
    int[] empty = {0, 0, 0, 0, 3, 0, 0, 0, 0, 0, 0, 0};
    x = new GuildCharter();
    for (int what : around(0, 11)) {
      C.due("of a new one, about(" + what + ")", x.about(what), within(what, 0, 11) ? empty[what] : NONE);
    }
  }

  // ---- what no call does

  private static void questionsTest() {
    C.sentence("Not promised: Nothing is promised beyond the answers and state changes described above");
    for (int number : around(0, 3)) {
      refused("questions about " + number, 0, x -> {
        x.fault(number);
        x.worth(number, 1);
        x.behind(0, number, 1);
        x.turn(number);
        x.word(number);
        x.means(number);
        x.held(number);
        x.share(number, 0);
        x.bribe(2, number);
        x.shortest(number);
        x.lots(number);
        x.struck(number);
        x.lies(number);
        x.orders(number);
        x.about(number);
        return 0;
      });
    }
    refused("questions about all", 0, x -> {
      x.next();
      x.readings();
      x.swap();
      x.used();
      x.fit();
      return 0;
    });
    refused("what lies there alone is changed", 0, x -> {
      x.best(0);
      x.doubtful();
      x.written(1);
      return 0;
    });
  }

  private static void lastCallTest() {
    C.sentence("What it is: An object is used for at most 512 calls after it has been made");
    GuildCharter x = new GuildCharter();
    byte[] bytes = PLAIN.getBytes(java.nio.charset.StandardCharsets.ISO_8859_1);
    int calls = 0;
    for (int i = 0; i < bytes.length; i += 20) {
      x.feed(Check.number(bytes, i), Check.number(bytes, i + 4), Check.number(bytes, i + 8), Check.number(bytes, i + 12), Check.number(bytes, i + 16));
      calls++;
    }
    x.port();
    calls++;
    for (; calls < 510; calls++) {
      x.sell(calls % 3, calls / 3 % 3);
    }
    C.due("the 511th call", x.undo(), true);
    C.due("the 512th call", x.about(6), 39);
  }
}
