import java.util.ArrayList;
import java.util.List;
import java.util.function.Predicate;

/**
 * Grammars whose sentences can be told without them. Behind each row of words, of each length, it is
 * asked what can come next, what can be written, in how many ways it is read, and how many fit.
 */
public final class GrammarsTest {
  private static final Check C = new Check("GrammarsTest");
  private static final String TWO = "word a 51 50 50; word b 50 51 50;";
  private static final String THREE = TWO + "word c 50 50 51;";
  private static final int LONGEST = 6;

  private final int words;
  private final String text;
  private final Predicate<String> isSentence;
  private final boolean readInOneWay;

  private GrammarsTest(int words, String rules, boolean readInOneWay, Predicate<String> isSentence) {
    this.words = words;
    this.text = (words == 2 ? TWO : THREE) + rules;
    this.isSentence = isSentence;
    this.readInOneWay = readInOneWay;
  }

  public static void main(String[] args) {
    // A rule that comes again behind, ahead, between, and on both sides, each not as the first rule, too.
    new GrammarsTest(2, "rule s = b t; rule t = a t or a;", true, row -> row.matches("ba+")).run();
    new GrammarsTest(2, "rule s = b t; rule t = a or a t;", true, row -> row.matches("ba+")).run();
    new GrammarsTest(2, "rule s = t b; rule t = t a or a;", true, row -> row.matches("a+b")).run();
    new GrammarsTest(2, "rule s = s b or a;", true, row -> row.matches("ab*")).run();
    new GrammarsTest(2, "rule s = a s b or a b;", true, GrammarsTest::firstAsThenAsManyBs).run();
    new GrammarsTest(3, "rule s = t or c t c; rule t = a t b or a b;", true,
        row -> firstAsThenAsManyBs(row.matches("c.*c") ? row.substring(1, row.length() - 1) : row)).run();
    new GrammarsTest(2, "rule s = s s or a s b or a b;", false, GrammarsTest::closesWhatItOpens).run();
    new GrammarsTest(2, "rule s = t or t s; rule t = a s b or a b;", true, GrammarsTest::closesWhatItOpens).run();
    new GrammarsTest(2, "rule s = a s a or b s b or a a or b b or a or b;", true, GrammarsTest::isTheSameBackwards).run();
    new GrammarsTest(2, "rule s = a q or b p; rule p = a or a s or b p p; rule q = b or b s or a q q;", false,
        row -> count(row, 'a') == count(row, 'b')).run();
    // Four names in an alt, and rules that are read only where others leave off.
    new GrammarsTest(2, "rule s = x y x y; rule x = a or a x; rule y = y b or b;", true, row -> row.matches("a+b+a+b+")).run();
    new GrammarsTest(3, "rule s = x y z; rule x = x x or a; rule y = b y or b; rule z = c or z c;", false,
        row -> row.matches("a+b+c+")).run();
    new GrammarsTest(3, "rule s = a t or b u or c; rule t = b s or c t; rule u = a s or c u;", true,
        row -> row.matches("(ac*b|bc*a)*c")).run();
    // Names alone, down all eight rules, and back to the first one from the last.
    new GrammarsTest(2, "rule s = t; rule t = u; rule u = v; rule v = w; rule w = x; rule x = y; rule y = z; rule z = a s or b;",
        true, row -> row.matches("a*b")).run();
    new GrammarsTest(2, "rule s = t or a; rule t = u or b b; rule u = v; rule v = w; rule w = x or a t; rule x = y; rule y = z; rule z = s b;",
        false, row -> row.equals("a") || row.length() > 1 && row.matches("a*b+")).run();
    // Rules that read nothing, and words that no rule has.
    new GrammarsTest(2, "rule s = a t or b; rule t = t a or a t;", true, row -> row.equals("b")).run();
    new GrammarsTest(3, "rule s = a or a s;", true, row -> row.matches("a+")).run();
    C.finish();
  }

  private static boolean firstAsThenAsManyBs(String row) {
    return row.matches("a+b+") && count(row, 'a') == count(row, 'b');
  }

  private static boolean closesWhatItOpens(String row) {
    int open = 0;
    for (int i = 0; i < row.length() && open >= 0; i++) {
      open += row.charAt(i) == 'a' ? 1 : -1;
    }
    return open == 0;
  }

  private static boolean isTheSameBackwards(String row) {
    return new StringBuilder(row).reverse().toString().equals(row);
  }

  private static int count(String row, char word) {
    return (int) row.chars().filter(sign -> sign == word).count();
  }

  private void run() {
    for (int length = 1; length <= LONGEST; length++) {
      List<String> charters = new ArrayList<>();
      for (String row : rowsOf(length)) {
        if (isSentence.test(row)) {
          charters.add(row);
        }
      }
      askAll(length, charters);
      askHoles(length, charters);
    }
  }

  private List<String> rowsOf(int length) {
    List<String> rows = new ArrayList<>(List.of(""));
    for (int place = 0; place < length; place++) {
      List<String> longer = new ArrayList<>();
      for (String row : rows) {
        for (int word = 0; word < words; word++) {
          longer.add(row + (char) ('a' + word));
        }
      }
      rows = longer;
    }
    return rows;
  }

  private GuildCharter made(int length) {
    return Check.made(text + "length " + length + ";");
  }

  private static boolean begins(List<String> charters, String row) {
    return charters.stream().anyMatch(charter -> charter.startsWith(row));
  }

  private void askAll(int length, List<String> charters) {
    for (int size = 0; size <= length; size++) {
      for (String row : rowsOf(size)) {
        if (size == 0 || begins(charters, row)) {
          ask(length, charters, row);
        }
      }
    }
  }

  private void ask(int length, List<String> charters, String row) {
    GuildCharter x = made(length);
    String told = "[" + text + "] of " + length + " words, behind '" + row + "': ";
    for (int place = 0; place < row.length(); place++) {
      C.due(told + "write", x.write(row.charAt(place) - 'a'), place + 1);
    }
    int next = 0;
    for (int word = 0; word < words; word++) {
      next |= row.length() < length && begins(charters, row + (char) ('a' + word)) ? 1 << word : 0;
    }
    C.due(told + "next()", x.next(), next);
    for (int word = -1; word <= words; word++) {
      boolean can = word >= 0 && (next >> word & 1) != 0;
      C.due(told + "write(" + word + ")", x.write(word), can ? row.length() + 1 : GuildCharter.NONE);
      C.due(told + "undo()", can && x.undo(), can);
    }
    int readings = x.readings();
    boolean sentence = !row.isEmpty() && isSentence.test(row);
    C.due(told + "readings() > 0", readings > 0, sentence);
    C.due(told + "readings()", readInOneWay ? readings : 1, readInOneWay && !sentence ? 0 : 1);
    C.due(told + "written(0) is there", x.written(0) != GuildCharter.GAP, begins(charters, row));
    C.due(told + "about(11)", x.about(11), begins(charters, row) ? length : 0);
  }

  private void askHoles(int length, List<String> charters) {
    GuildCharter x = made(length);
    String told = "[" + text + "] of " + length + " words: ";
    C.due(told + "fit()", x.fit(), charters.size());
    if (readInOneWay) {
      C.due(told + "doubtful()", x.doubtful(), 0);
    }
    for (int place = 0; place < length; place++) {
      for (int word = 0; word < words; word++) {
        char sign = (char) ('a' + word);
        int at = place;
        long due = charters.stream().filter(charter -> charter.charAt(at) == sign).count();
        C.due(told + "hole", x.hole(place, word), true);
        C.due(told + "fit() with '" + sign + "' at " + place, x.fit(), due);
      }
      C.due(told + "hole", x.hole(place, GuildCharter.NONE), true);
    }
  }
}
