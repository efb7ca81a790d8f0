import java.nio.charset.StandardCharsets;

/** What the tests of the project share: answers that are due, and texts for the tape. */
final class Check {
  private final String title;
  private String sentence = "";
  private int sentences = 0;
  private int asked = 0;
  private int wrong = 0;

  Check(String title) {
    this.title = title;
  }

  /** What comes from here on tests a sentence of the document, which stands ahead of all that is printed. */
  void sentence(String words) {
    sentence = "\"" + words + "\": ";
    sentences++;
  }

  void due(String call, long got, long want) {
    asked++;
    if (got != want) {
      wrong++;
      System.out.println(title + ": " + sentence + call + " answered " + got + ", due is " + want);
    }
  }

  void due(String call, boolean got, boolean want) {
    due(call, got ? 1 : 0, want ? 1 : 0);
  }

  /** Ends the program: with 1 if an answer was wrong, or if none was asked for. */
  void finish() {
    String tested = sentences > 0 ? sentences + " sentences, " : "";
    System.out.println(title + ": " + tested + asked + " answers, " + wrong + " of them wrong");
    System.exit(wrong == 0 && asked > 0 ? 0 : 1);
  }

  /** Puts a text on the tape, behind what is there. */
  static void tape(GuildCharter x, String text) {
    byte[] bytes = text.getBytes(StandardCharsets.ISO_8859_1);
    int before = x.about(10);
    for (int i = 0; i < bytes.length; i += 20) {
      x.feed(number(bytes, i), number(bytes, i + 4), number(bytes, i + 8), number(bytes, i + 12), number(bytes, i + 16));
    }
    x.end(before + bytes.length);
  }

  static int number(byte[] bytes, int at) {
    int number = 0;
    for (int i = 0; i < 4; i++) {
      number = number << 8 | (at + i < bytes.length ? bytes[at + i] & 255 : 32);
    }
    return number;
  }

  static int port(GuildCharter x, String text) {
    x.end(0);
    tape(x, text);
    return x.port();
  }

  static GuildCharter made(String text) {
    GuildCharter x = new GuildCharter();
    if (port(x, text) < 0) {
      throw new IllegalArgumentException("fault " + x.fault(0) + " at " + x.fault(1) + " of " + text);
    }
    return x;
  }
}
