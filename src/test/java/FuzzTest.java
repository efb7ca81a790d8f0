import java.util.ArrayList;
import java.util.Collections;
import java.util.List;
import java.util.Random;

/** Runs of calls by lot, each answered by the class and by the plain model of the document. */
public final class FuzzTest {
  private static final Check CHECK = new Check("FuzzTest");
  private static final String[] NAMES = {"a", "b", "c", "d", "e", "f", "g", "h", "ab", "abc", "letters", "eightlet"};
  private static final String[] RULE_NAMES = {"s", "t", "u", "v", "x", "y", "z", "q", "words", "rules"};

  private final Random lot;
  private final GuildCharter x = new GuildCharter();
  private final Model model = new Model();
  private int left = 500;
  private final StringBuilder told = new StringBuilder();

  private FuzzTest(long seed) {
    lot = new Random(seed);
  }

  public static void main(String[] args) {
    int runs = args.length > 0 ? Integer.parseInt(args[0]) : 400;
    long first = args.length > 1 ? Long.parseLong(args[1]) : 1;
    for (long seed = first; seed < first + runs; seed++) {
      new FuzzTest(seed).run(seed);
    }
    CHECK.finish();
  }

  private void run(long seed) {
    while (left > 130) {
      tell();
      int calls = 40 + lot.nextInt(120);
      for (int i = 0; i < calls && left > 0; i++) {
        call(seed);
      }
    }
  }

  private void due(String call, long got, long want) {
    left--;
    CHECK.due(told + " " + call, got, want);
  }

  // ---- texts

  private void tell() {
    String text = lot.nextInt(4) == 0 ? spoilt(text()) : text();
    byte[] bytes = text.getBytes(java.nio.charset.StandardCharsets.ISO_8859_1);
    due("end(0)", x.end(0), model.end(0));
    for (int i = 0; i < bytes.length; i += 20) {
      int[] n = new int[5];
      for (int j = 0; j < 5; j++) {
        n[j] = Check.number(bytes, i + 4 * j);
      }
      due("feed", x.feed(n[0], n[1], n[2], n[3], n[4]), model.feed(n[0], n[1], n[2], n[3], n[4]));
    }
    due("end", x.end(bytes.length), model.end(bytes.length));
    told.append("\n[").append(text).append("]");
    due("port()", x.port(), model.port());
    due("fault(0)", x.fault(0), model.fault(0));
    due("fault(1)", x.fault(1), model.fault(1));
  }

  private String text() {
    int length = 1 + lot.nextInt(6);
    int room = lot.nextInt(12) == 0 ? 5000 : 260;
    int words = 1 + lot.nextInt(8);
    while (Math.pow(words, length) > room) {
      if (lot.nextBoolean() && words > 1 || length == 1) {
        words--;
      } else {
        length--;
      }
    }
    List<String> names = new ArrayList<>(List.of(NAMES));
    Collections.shuffle(names, lot);
    names = names.subList(0, words);
    List<String> rules = new ArrayList<>(List.of(RULE_NAMES));
    Collections.shuffle(rules, lot);
    // Sometimes as many as can be, or one too many: of RULES, of alts, of pairs, of WORDS.
    rules = rules.subList(0, 1 + lot.nextInt(lot.nextInt(4) == 0 ? 9 : 4));
    int spread = lot.nextInt(3) == 0 ? 50 : 1 + lot.nextInt(6);
    StringBuilder lines = new StringBuilder();
    int rule = 0;
    for (int i = 0; i < words; i++) {
      if (lot.nextInt(5) == 0 && rule < rules.size()) {
        lines.append(rule(rules, rule++, names));
      }
      lines.append("word ").append(names.get(i)).append(worths(spread)).append(blank(";"));
    }
    if (length != 3 || lot.nextBoolean()) {
      lines.append("length ").append(length).append(blank(";"));
    }
    List<String> pairs = new ArrayList<>();
    for (int i = lot.nextInt(lot.nextInt(4) == 0 ? 40 : 13); i > 0; i--) {
      String pair = "pair " + names.get(lot.nextInt(words)) + " " + names.get(lot.nextInt(words));
      if (!pairs.contains(pair)) {
        pairs.add(pair);
        lines.append(pair).append(worths(spread)).append(blank(";"));
      }
    }
    if (lot.nextBoolean()) {
      lines.append("turns");
      for (int i = 1 + lot.nextInt(6); i > 0; i--) {
        lines.append(" ").append(lot.nextInt(3));
      }
      lines.append(blank(";"));
    }
    while (rule < rules.size()) {
      lines.append(rule(rules, rule++, names));
    }
    return lines.toString();
  }

  private String blank(String sign) {
    String[] blanks = {"", "", " ", "\n", "  "};
    return blanks[lot.nextInt(3)] + sign + blanks[lot.nextInt(blanks.length)];
  }

  private String worths(int spread) {
    StringBuilder all = new StringBuilder();
    for (int i = 0; i < 3; i++) {
      int worth = 50 - spread + lot.nextInt(2 * spread);
      all.append(i == 0 && lot.nextInt(5) == 0 ? "" : " ").append(lot.nextInt(9) == 0 ? "00" : "").append(worth);
    }
    return all.toString();
  }

  private String rule(List<String> rules, int own, List<String> words) {
    List<String> alts = new ArrayList<>();
    if (own == 0 && lot.nextInt(3) > 0) {
      String inner = rules.get(rules.size() - 1);
      if (rules.size() == 1) {
        alts.add(words.get(0));
      }
      alts.add(lot.nextBoolean() ? rules.get(0) + " " + inner : inner + " " + rules.get(0));
      if (rules.size() > 1) {
        alts.add(inner);
      }
    }
    if (own == rules.size() - 1 && lot.nextInt(4) > 0) {
      for (String word : words) {
        if (lot.nextInt(6) > 0) {
          alts.add(word);
        }
      }
    }
    for (int i = lot.nextInt(lot.nextInt(9) == 0 ? 22 : 4); i > 0 || alts.isEmpty(); i--) {
      alts.add(alt(rules, own, words));
    }
    Collections.shuffle(alts, lot);
    return "rule " + rules.get(own) + blank("=") + String.join(" or ", alts) + blank(";");
  }

  private String alt(List<String> rules, int own, List<String> words) {
    int size = 1 + lot.nextInt(4);
    List<String> parts = new ArrayList<>();
    for (int i = 0; i < size; i++) {
      boolean word = lot.nextInt(3) > 0 || size == 1 && own == rules.size() - 1;
      int rule = size == 1 ? own + 1 + lot.nextInt(Math.max(1, rules.size() - own - 1)) : lot.nextInt(rules.size());
      parts.add(word ? words.get(lot.nextInt(words.size())) : rules.get(rule));
    }
    return String.join(" ", parts);
  }

  private String spoilt(String text) {
    String[] bits = {"word", "pair", "rule", "or", "length", "turns", "a", "s", "zz", "7", "99", "100", "12345", ";", "=",
      "0", "3", " ", "\n", "?", "ninelette", "A", "1a", "" + (char) 200, "word a 1 2 3;", "length 2;", "turns 1;", "or a",
      "pair a b 1 2 3;", "rule s = a;", " a a a a a ", "rule t = t;", "or s;"};
    String spoilt = text;
    for (int i = 1 + lot.nextInt(2); i > 0; i--) {
      int at = lot.nextInt(spoilt.length() + 1);
      int cut = lot.nextInt(3) == 0 ? Math.min(spoilt.length(), at + lot.nextInt(8)) : at;
      String bit = lot.nextInt(4) == 0 ? "" : bits[lot.nextInt(bits.length)];
      String blank = lot.nextBoolean() ? " " : "";
      spoilt = spoilt.substring(0, at) + blank + bit + blank + spoilt.substring(cut);
    }
    return spoilt.length() > 1580 ? spoilt.substring(0, 1580) : spoilt;
  }

  // ---- calls

  private int near(int most) {
    return lot.nextInt(10) == 0 ? lot.nextInt(most + 4) - 2 : lot.nextInt(Math.max(1, most));
  }

  private int someWord() {
    return near(model.told.words.size());
  }

  private int place() {
    return near(model.told.length);
  }

  private int guild() {
    return near(3);
  }

  private void call(long seed) {
    int a = place();
    int b = someWord();
    int g = guild();
    String args = "seed " + seed + " (" + a + ", " + b + ", " + g + ")";
    switch (lot.nextInt(44)) {
      case 0: due(args + "worth", x.worth(b, g), model.worth(b, g)); break;
      case 1: {
        int c = someWord();
        due(args + "behind " + c, x.behind(b, c, g), model.behind(b, c, g));
        break;
      }
      case 2: due(args + "turn", x.turn(a), model.turn(a)); break;
      case 3: case 4: case 5: due(args + "write", x.write(b), model.write(b)); break;
      case 6: case 7: due(args + "sell", x.sell(a, g), model.sell(a, g)); break;
      case 8: case 9: due(args + "undo", x.undo() ? 1 : 0, model.undo() ? 1 : 0); break;
      case 10: due(args + "redo", x.redo() ? 1 : 0, model.redo() ? 1 : 0); break;
      case 11: {
        if (lot.nextInt(3) == 0) {
          due(args + "wipe", x.wipe(), model.wipe());
        }
        break;
      }
      case 12: due(args + "word", x.word(a), model.word(a)); break;
      case 13: due(args + "next", x.next(), model.next()); break;
      case 14: due(args + "readings", x.readings(), model.readings()); break;
      case 15: due(args + "means", x.means(g), model.means(g)); break;
      case 16: case 17: due(args + "written", x.written(g), model.written(g)); lying(args); break;
      case 18: case 19: {
        int set = near(8);
        due(args + "held " + set, x.held(set), model.held(set));
        break;
      }
      case 20: {
        int what = near(2);
        due(args + "share " + what, x.share(g, what), model.share(g, what));
        break;
      }
      case 21: case 22: due(args + "swap", x.swap(), model.swap()); break;
      case 23: case 24: due(args + "bribe", x.bribe(a, b), model.bribe(a, b)); break;
      case 25: due(args + "used", x.used(), model.used()); break;
      case 26: {
        int rule = near(model.told.rules.size());
        due(args + "shortest " + rule, x.shortest(rule), model.shortest(rule));
        break;
      }
      case 27: due(args + "doubtful", x.doubtful(), model.doubtful()); lying(args); break;
      case 28: due(args + "lots", x.lots(g), model.lots(g)); break;
      case 29: case 30: {
        int word = lot.nextInt(3) == 0 ? -1 : b;
        due(args + "hole " + word, x.hole(a, word) ? 1 : 0, model.hole(a, word) ? 1 : 0);
        break;
      }
      case 31: due(args + "fit", x.fit(), model.fit()); break;
      case 32: due(args + "best", x.best(g), model.best(g)); lying(args); break;
      case 33: due(args + "struck", x.struck(g), model.struck(g)); break;
      default: rarer(args, a, b); break;
    }
  }

  private void rarer(String args, int a, int b) {
    switch (lot.nextInt(10)) {
      case 0: case 1: {
        boolean stood = lot.nextInt(3) == 0;
        due(args + "seen " + stood, x.seen(a, b, stood), model.seen(a, b, stood));
        break;
      }
      case 2: {
        int number = near(Math.max(1, model.seen.size()));
        due(args + "untell " + number, x.untell(number) ? 1 : 0, model.untell(number) ? 1 : 0);
        break;
      }
      case 3: {
        int by = lot.nextInt(8) == 0 ? lot.nextInt(1010) - 4 : lot.nextInt(3);
        due(args + "later " + by, x.later(by), model.later(by));
        break;
      }
      case 4: case 5: {
        int k = model.time + lot.nextInt(8) - 6;
        due(args + "orders " + k, x.orders(k), model.orders(k));
        break;
      }
      case 6: {
        int box = near(3);
        due(args + "image " + box, x.image(box), model.image(box));
        break;
      }
      case 7: {
        int box = near(3);
        due(args + "back " + box, x.back(box), model.back(box));
        break;
      }
      default: {
        int what = near(12);
        due(args + "about " + what, x.about(what), model.about(what));
        break;
      }
    }
  }

  private void lying(String args) {
    for (int i = 0; i <= model.lying.size(); i++) {
      due(args + "lies " + i, x.lies(i), model.lies(i));
    }
  }
}
