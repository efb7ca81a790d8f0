import java.math.BigInteger;
import java.nio.charset.StandardCharsets;
import java.util.ArrayList;
import java.util.Arrays;
import java.util.HashMap;
import java.util.HashSet;
import java.util.List;
import java.util.Map;
import java.util.Set;
import java.util.TreeSet;

/**
 * The document once more, in its plainest form: all rows of all words are listed, games are played
 * out by recursion, bribes are tried one after the other. It is slow, and made to be compared with.
 */
final class Model {
  static final int NONE = -1;
  static final int GAP = -1000000;
  static final int[][] ORDERS = {{0, 1, 2}, {0, 2, 1}, {1, 0, 2}, {1, 2, 0}, {2, 0, 1}, {2, 1, 0}};
  static final Set<String> KEYS = new HashSet<>(Arrays.asList("word", "pair", "rule", "or", "length", "turns"));

  static final class Fault extends Exception {
    private static final long serialVersionUID = 1L;
    final int kind;
    final int place;

    Fault(int kind, int place) {
      super("fault", null, false, false);
      this.kind = kind;
      this.place = place;
    }
  }

  static final class Token {
    final String text;
    final int place;

    Token(String text, int place) {
      this.text = text;
      this.place = place;
    }

    boolean isName() {
      return text.matches("[a-z]{1,8}") && !KEYS.contains(text);
    }

    boolean isNumber() {
      return text.matches("[0-9]{1,4}");
    }
  }

  static final class Rules {
    List<String> words = new ArrayList<>();
    List<int[]> worths = new ArrayList<>();
    Map<List<Integer>, int[]> pairs = new HashMap<>();
    List<String> rules = new ArrayList<>();
    List<List<List<String>>> alts = new ArrayList<>();
    int altCount = 0;
    int length = 3;
    boolean lengthTold = false;
    List<Integer> turns = new ArrayList<>();
  }

  static final class Act {
    boolean sale;
    int place;
    int before;
    int after;
  }

  static final class Kept {
    List<Integer> row;
    int[] sold;
  }

  static final class Seen {
    int place;
    int word;
    boolean stood;
    int told;
    int untold = Integer.MAX_VALUE;
  }

  byte[] tape = new byte[0];
  Rules told = new Rules();
  int faultKind = 0;
  int faultPlace = NONE;
  List<Integer> row = new ArrayList<>();
  int[] sold = new int[6];
  List<Act> done = new ArrayList<>();
  List<Act> undone = new ArrayList<>();
  int[] holes = new int[6];
  List<Seen> seen = new ArrayList<>();
  List<Integer> lying = new ArrayList<>();
  Kept[] boxes = new Kept[3];
  int time = 0;
  List<List<Integer>> charters = new ArrayList<>();
  Set<List<Integer>> beginnings = new HashSet<>();
  Map<List<Object>, BigInteger> counted = new HashMap<>();

  Model() {
    Arrays.fill(sold, NONE);
    Arrays.fill(holes, NONE);
  }

  // ---- the tape and the text

  int feed(int a, int b, int c, int d, int e) {
    if (tape.length + 20 > 1600) {
      return NONE;
    }
    int at = tape.length;
    tape = Arrays.copyOf(tape, at + 20);
    for (int number : new int[] {a, b, c, d, e}) {
      for (int i = 0; i < 4; i++) {
        tape[at++] = (byte) (number >>> (24 - 8 * i));
      }
    }
    return tape.length;
  }

  int end(int n) {
    if (n < 0 || n > tape.length) {
      return NONE;
    }
    tape = Arrays.copyOf(tape, n);
    return n;
  }

  int port() {
    Rules rules;
    try {
      rules = parsed(new String(tape, StandardCharsets.ISO_8859_1));
    } catch (Fault fault) {
      faultKind = fault.kind;
      faultPlace = fault.place;
      return NONE;
    }
    faultKind = 0;
    faultPlace = NONE;
    told = rules;
    tape = new byte[0];
    wipe();
    Arrays.fill(holes, NONE);
    seen.clear();
    lying.clear();
    Arrays.fill(boxes, null);
    listCharters();
    return told.words.size();
  }

  /** The tokens up to the first place where there is none; that one has the text "?". */
  static List<Token> tokens(String text) {
    List<Token> list = new ArrayList<>();
    int at = 0;
    while (at < text.length()) {
      char c = text.charAt(at);
      if (c == ' ' || c == '\n') {
        at++;
        continue;
      }
      java.util.regex.Matcher m = java.util.regex.Pattern.compile("[a-z]+|[0-9]+[a-z]?|[;=]").matcher(text);
      if (!m.find(at) || m.start() != at) {
        list.add(new Token("?", at));
        return list;
      }
      String token = m.group();
      if (!token.matches("[a-z]{1,8}|[0-9]{1,4}|[;=]")) {
        list.add(new Token("?", at));
        return list;
      }
      list.add(new Token(token, at));
      at = m.end();
    }
    list.add(new Token("", text.length()));
    return list;
  }

  static Rules parsed(String text) throws Fault {
    Rules r = new Rules();
    List<Token> t = tokens(text);
    List<List<Token>> altTokens = new ArrayList<>();
    List<Integer> altRules = new ArrayList<>();
    int at = 0;
    while (!t.get(at).text.isEmpty()) {
      Token first = t.get(at);
      notBad(first);
      switch (first.text) {
        case "word": {
          if (r.words.size() == 8) throw new Fault(2, first.place);
          Token name = t.get(++at);
          freshName(r, name);
          int[] worth = new int[3];
          for (int g = 0; g < 3; g++) worth[g] = number(t.get(++at), 0, 99) - 50;
          r.words.add(name.text);
          r.worths.add(worth);
          at++;
          break;
        }
        case "pair": {
          if (r.pairs.size() == 12) throw new Fault(2, first.place);
          Token one = t.get(++at);
          name(one);
          if (!r.words.contains(one.text)) throw new Fault(5, one.place);
          Token two = t.get(++at);
          name(two);
          if (!r.words.contains(two.text)) throw new Fault(5, two.place);
          List<Integer> both = Arrays.asList(r.words.indexOf(one.text), r.words.indexOf(two.text));
          if (r.pairs.containsKey(both)) throw new Fault(3, two.place);
          int[] worth = new int[3];
          for (int g = 0; g < 3; g++) worth[g] = number(t.get(++at), 0, 99) - 50;
          r.pairs.put(both, worth);
          at++;
          break;
        }
        case "rule": {
          if (r.rules.size() == 8) throw new Fault(2, first.place);
          Token name = t.get(++at);
          freshName(r, name);
          r.rules.add(name.text);
          r.alts.add(new ArrayList<>());
          literal(t.get(++at), "=");
          do {
            List<Token> alt = new ArrayList<>();
            Token head = t.get(++at);
            notBad(head);
            if (r.altCount == 24) throw new Fault(2, head.place);
            name(head);
            alt.add(head);
            while (t.get(++at).isName()) {
              if (alt.size() == 4) throw new Fault(2, t.get(at).place);
              alt.add(t.get(at));
            }
            r.altCount++;
            altTokens.add(alt);
            altRules.add(r.rules.size() - 1);
            List<String> names = new ArrayList<>();
            for (Token part : alt) names.add(part.text);
            r.alts.get(r.alts.size() - 1).add(names);
          } while (t.get(at).text.equals("or"));
          break;
        }
        case "length": {
          if (r.lengthTold) throw new Fault(2, first.place);
          r.length = number(t.get(++at), 1, 6);
          r.lengthTold = true;
          at++;
          break;
        }
        case "turns": {
          if (!r.turns.isEmpty()) throw new Fault(2, first.place);
          r.turns.add(number(t.get(++at), 0, 2));
          while (t.get(++at).isNumber()) {
            if (r.turns.size() == 6) throw new Fault(2, t.get(at).place);
            r.turns.add(number(t.get(at), 0, 2));
          }
          break;
        }
        default: throw new Fault(2, first.place);
      }
      literal(t.get(at), ";");
      at++;
    }
    for (int i = 0; i < altTokens.size(); i++) {
      for (Token part : altTokens.get(i)) {
        int rule = r.rules.indexOf(part.text);
        if (rule < 0 && !r.words.contains(part.text)) throw new Fault(6, part.place);
        if (altTokens.get(i).size() == 1 && rule >= 0 && rule <= altRules.get(i)) throw new Fault(7, part.place);
      }
    }
    if (r.turns.isEmpty()) r.turns.addAll(Arrays.asList(0, 1, 2));
    return r;
  }

  static void notBad(Token t) throws Fault {
    if (t.text.equals("?")) throw new Fault(1, t.place);
  }

  static void name(Token t) throws Fault {
    notBad(t);
    if (!t.isName()) throw new Fault(2, t.place);
  }

  static void freshName(Rules r, Token t) throws Fault {
    name(t);
    if (r.words.contains(t.text) || r.rules.contains(t.text)) throw new Fault(3, t.place);
  }

  static void literal(Token t, String sign) throws Fault {
    notBad(t);
    if (!t.text.equals(sign)) throw new Fault(2, t.place);
  }

  static int number(Token t, int least, int most) throws Fault {
    notBad(t);
    if (!t.isNumber()) throw new Fault(2, t.place);
    int n = Integer.parseInt(t.text);
    if (n < least || n > most) throw new Fault(4, t.place);
    return n;
  }

  int fault(int what) {
    return what == 0 ? faultKind : what == 1 ? faultPlace : NONE;
  }

  // ---- what can be read

  BigInteger ways(String name, List<Integer> part) {
    int word = told.words.indexOf(name);
    if (word >= 0) {
      return part.size() == 1 && part.get(0) == word ? BigInteger.ONE : BigInteger.ZERO;
    }
    List<Object> key = Arrays.asList(name, part);
    BigInteger known = counted.get(key);
    if (known != null) {
      return known;
    }
    BigInteger sum = BigInteger.ZERO;
    for (List<String> alt : told.alts.get(told.rules.indexOf(name))) {
      sum = sum.add(ways(alt, part));
    }
    counted.put(key, sum);
    return sum;
  }

  BigInteger ways(List<String> names, List<Integer> part) {
    if (part.size() < names.size()) {
      return BigInteger.ZERO;
    }
    if (names.size() == 1) {
      return ways(names.get(0), part);
    }
    BigInteger sum = BigInteger.ZERO;
    for (int cut = 1; cut < part.size(); cut++) {
      BigInteger head = ways(names.get(0), part.subList(0, cut));
      if (head.signum() > 0) {
        sum = sum.add(head.multiply(ways(names.subList(1, names.size()), part.subList(cut, part.size()))));
      }
    }
    return sum;
  }

  int readingsOf(List<Integer> part) {
    if (told.rules.isEmpty() || part.isEmpty()) {
      return 0;
    }
    return ways(told.rules.get(0), new ArrayList<>(part)).min(BigInteger.valueOf(1000000000)).intValue();
  }

  void listCharters() {
    charters.clear();
    beginnings.clear();
    counted.clear();
    list(new ArrayList<>());
  }

  void list(List<Integer> begun) {
    if (begun.size() == told.length) {
      if (readingsOf(begun) > 0) {
        charters.add(new ArrayList<>(begun));
        for (int i = 0; i <= begun.size(); i++) {
          beginnings.add(new ArrayList<>(begun.subList(0, i)));
        }
      }
      return;
    }
    for (int w = 0; w < told.words.size(); w++) {
      begun.add(w);
      list(begun);
      begun.remove(begun.size() - 1);
    }
  }

  int meaning(List<Integer> part, int guild) {
    int sum = 0;
    for (int i = 0; i < part.size(); i++) {
      sum += told.worths.get(part.get(i))[guild];
      if (i > 0) {
        sum += behind(part.get(i - 1), part.get(i), guild);
      }
    }
    return sum;
  }

  boolean spentFrom(List<Integer> begun) {
    int count = 0;
    for (List<Integer> one : beginnings) {
      if (one.size() >= begun.size() && one.subList(0, begun.size()).equals(begun)) {
        count++;
      }
    }
    return count > 3000;
  }

  // ---- plain questions

  boolean isWord(int word) {
    return word >= 0 && word < told.words.size();
  }

  boolean isPlace(int place) {
    return place >= 0 && place < told.length;
  }

  static boolean isGuild(int guild) {
    return guild >= 0 && guild <= 2;
  }

  int worth(int word, int guild) {
    return isWord(word) && isGuild(guild) ? told.worths.get(word)[guild] : GAP;
  }

  int behind(int first, int second, int guild) {
    if (!isWord(first) || !isWord(second) || !isGuild(guild)) {
      return GAP;
    }
    int[] worth = told.pairs.get(Arrays.asList(first, second));
    return worth == null ? 0 : worth[guild];
  }

  int baseTurn(int place) {
    return told.turns.isEmpty() ? place % 3 : told.turns.get(place % told.turns.size());
  }

  int turn(int place) {
    return !isPlace(place) ? NONE : sold[place] >= 0 ? sold[place] : baseTurn(place);
  }

  int word(int place) {
    return place >= 0 && place < row.size() ? row.get(place) : NONE;
  }

  int next() {
    int bits = 0;
    for (int w = 0; w < told.words.size(); w++) {
      if (canCome(w)) {
        bits |= 1 << w;
      }
    }
    return bits;
  }

  boolean canCome(int word) {
    List<Integer> longer = new ArrayList<>(row);
    longer.add(word);
    return beginnings.contains(longer);
  }

  int readings() {
    return readingsOf(row);
  }

  int means(int guild) {
    return isGuild(guild) ? meaning(row, guild) : GAP;
  }

  // ---- acts

  int write(int word) {
    if (!isWord(word) || !canCome(word)) {
      return NONE;
    }
    Act act = new Act();
    act.after = word;
    enact(act);
    return row.size();
  }

  int sell(int place, int guild) {
    if (!isPlace(place) || place < row.size() || !isGuild(guild)) {
      return NONE;
    }
    int owner = turn(place);
    Act act = new Act();
    act.sale = true;
    act.place = place;
    act.before = sold[place];
    act.after = guild;
    enact(act);
    return owner;
  }

  void enact(Act act) {
    undone.clear();
    perform(act);
    done.add(act);
    if (done.size() > 40) {
      done.remove(0);
    }
  }

  void perform(Act act) {
    if (act.sale) {
      sold[act.place] = act.after;
    } else {
      row.add(act.after);
    }
  }

  boolean undo() {
    if (done.isEmpty()) {
      return false;
    }
    Act act = done.remove(done.size() - 1);
    undone.add(act);
    if (act.sale) {
      sold[act.place] = act.before;
    } else {
      row.remove(row.size() - 1);
    }
    return true;
  }

  boolean redo() {
    if (undone.isEmpty()) {
      return false;
    }
    Act act = undone.remove(undone.size() - 1);
    perform(act);
    done.add(act);
    return true;
  }

  int wipe() {
    int size = row.size();
    row.clear();
    Arrays.fill(sold, NONE);
    done.clear();
    undone.clear();
    return size;
  }

  int image(int box) {
    if (box < 0 || box > 2) {
      return NONE;
    }
    boxes[box] = new Kept();
    boxes[box].row = new ArrayList<>(row);
    boxes[box].sold = sold.clone();
    return row.size();
  }

  int back(int box) {
    if (box < 0 || box > 2 || boxes[box] == null) {
      return NONE;
    }
    row = new ArrayList<>(boxes[box].row);
    sold = boxes[box].sold.clone();
    done.clear();
    undone.clear();
    return row.size();
  }

  // ---- play

  int[] turnsInEarnest() {
    int[] turns = new int[told.length];
    for (int i = 0; i < turns.length; i++) {
      turns[i] = turn(i);
    }
    return turns;
  }

  int bonus = 0;
  int bonusGuild = NONE;
  int bonusPlace = 0;
  int bonusWord = 0;

  int counted(List<Integer> charter, int guild) {
    boolean paid = guild == bonusGuild && charter.get(bonusPlace) == bonusWord;
    return meaning(charter, guild) + (paid ? bonus : 0);
  }

  List<Integer> writtenFrom(List<Integer> begun, int[] turns) {
    if (begun.size() == told.length) {
      return begun;
    }
    List<Integer> best = null;
    int guild = turns[begun.size()];
    for (int w = 0; w < told.words.size(); w++) {
      List<Integer> longer = new ArrayList<>(begun);
      longer.add(w);
      if (beginnings.contains(longer)) {
        List<Integer> end = writtenFrom(longer, turns);
        if (best == null || counted(end, guild) > counted(best, guild)) {
          best = end;
        }
      }
    }
    return best;
  }

  boolean stuck() {
    return !beginnings.contains(row) || spentFrom(row);
  }

  int written(int guild) {
    lying.clear();
    if (!isGuild(guild) || stuck()) {
      return GAP;
    }
    lying.addAll(writtenFrom(row, turnsInEarnest()));
    return meaning(lying, guild);
  }

  int heldFrom(List<Integer> begun, int guilds, int[] turns) {
    if (begun.size() == told.length) {
      int sum = 0;
      for (int g = 0; g < 3; g++) {
        if ((guilds >> g & 1) == 1) {
          sum += meaning(begun, g);
        }
      }
      return sum;
    }
    TreeSet<Integer> values = new TreeSet<>();
    for (int w = 0; w < told.words.size(); w++) {
      List<Integer> longer = new ArrayList<>(begun);
      longer.add(w);
      if (beginnings.contains(longer)) {
        values.add(heldFrom(longer, guilds, turns));
      }
    }
    return (guilds >> turns[begun.size()] & 1) == 1 ? values.last() : values.first();
  }

  int held(int guilds) {
    return guilds < 1 || guilds > 7 || stuck() ? GAP : heldFrom(row, guilds, turnsInEarnest());
  }

  int share(int guild, int what) {
    if (!isGuild(guild) || what < 0 || what > 1 || stuck()) {
      return GAP;
    }
    int sum = 0;
    for (int[] order : ORDERS) {
      int ahead = 0;
      for (int g : order) {
        int with = ahead | 1 << g;
        if (g == guild) {
          sum += held(with) - (ahead == 0 ? 0 : held(ahead));
        }
        ahead = with;
      }
    }
    int common = BigInteger.valueOf(sum).gcd(BigInteger.valueOf(6)).intValue();
    return what == 0 ? sum / common : 6 / common;
  }

  int swap() {
    if (stuck()) {
      return NONE;
    }
    int[] turns = turnsInEarnest();
    List<Integer> plain = writtenFrom(row, turns);
    for (int p = row.size(); p < told.length; p++) {
      for (int q = p + 1; q < told.length; q++) {
        if (turns[p] != turns[q]) {
          int[] other = turns.clone();
          other[p] = turns[q];
          other[q] = turns[p];
          List<Integer> end = writtenFrom(row, other);
          if (meaning(end, turns[p]) > meaning(plain, turns[p]) && meaning(end, turns[q]) > meaning(plain, turns[q])) {
            return 10 * p + q;
          }
        }
      }
    }
    return NONE;
  }

  int bribe(int place, int word) {
    if (!isPlace(place) || place < row.size() || !isWord(word)) {
      return -2;
    }
    if (stuck()) {
      return NONE;
    }
    int found = NONE;
    bonusGuild = turn(place);
    bonusPlace = place;
    bonusWord = word;
    for (bonus = 0; bonus <= 99 && found == NONE; bonus++) {
      if (writtenFrom(row, turnsInEarnest()).get(place) == word) {
        found = bonus;
      }
    }
    bonusGuild = NONE;
    return found;
  }

  // ---- rules

  /** The fewest words by trees of at most so many levels; null if there is none. */
  Integer shortestBy(String name, int levels) {
    if (told.words.contains(name)) {
      return 1;
    }
    if (levels == 0) {
      return null;
    }
    Integer least = null;
    for (List<String> alt : told.alts.get(told.rules.indexOf(name))) {
      Integer sum = 0;
      for (String part : alt) {
        Integer one = sum == null ? null : shortestBy(part, levels - 1);
        sum = one == null ? null : sum + one;
      }
      if (sum != null && (least == null || sum < least)) {
        least = sum;
      }
    }
    return least;
  }

  int shortest(int rule) {
    if (rule < 0 || rule >= told.rules.size()) {
      return NONE;
    }
    Integer least = shortestBy(told.rules.get(rule), told.rules.size());
    return least == null ? 0 : least;
  }

  int used() {
    Set<String> reached = new HashSet<>();
    List<String> open = new ArrayList<>();
    if (!told.rules.isEmpty() && shortest(0) > 0) {
      open.add(told.rules.get(0));
    }
    while (!open.isEmpty()) {
      String name = open.remove(0);
      if (told.words.contains(name) || !reached.add(name)) {
        continue;
      }
      for (List<String> alt : told.alts.get(told.rules.indexOf(name))) {
        boolean all = true;
        for (String part : alt) {
          all &= told.words.contains(part) || shortest(told.rules.indexOf(part)) > 0;
        }
        if (all) {
          open.addAll(alt);
        }
      }
    }
    int bits = 0;
    for (String name : reached) {
      bits |= 1 << told.rules.indexOf(name);
    }
    return bits;
  }

  int doubtful() {
    lying.clear();
    if (spentFrom(new ArrayList<>())) {
      return -2;
    }
    for (List<Integer> charter : charters) {
      if (readingsOf(charter) > 1) {
        lying.addAll(charter);
        return readingsOf(charter);
      }
    }
    return 0;
  }

  // ---- lots, holes, struck

  List<Integer> writtenBy(int order) {
    int[] turns = new int[told.length];
    for (int i = 0; i < turns.length; i++) {
      turns[i] = ORDERS[order][i % 3];
    }
    return writtenFrom(new ArrayList<>(), turns);
  }

  int lots(int guild) {
    if (!isGuild(guild) || charters.isEmpty() || spentFrom(new ArrayList<>())) {
      return GAP;
    }
    int sum = 0;
    for (int order = 0; order < 6; order++) {
      sum += meaning(writtenBy(order), guild);
    }
    return sum;
  }

  boolean hole(int place, int word) {
    if (!isPlace(place) || word != NONE && !isWord(word)) {
      return false;
    }
    holes[place] = word;
    return true;
  }

  boolean fits(List<Integer> part) {
    for (int i = 0; i < part.size(); i++) {
      if (holes[i] != NONE && holes[i] != part.get(i)) {
        return false;
      }
    }
    return true;
  }

  boolean holesSpent() {
    return beginnings.stream().filter(this::fits).count() > 3000;
  }

  int fit() {
    return holesSpent() ? -2 : (int) charters.stream().filter(this::fits).count();
  }

  int best(int guild) {
    lying.clear();
    if (!isGuild(guild) || holesSpent()) {
      return GAP;
    }
    List<Integer> best = null;
    for (List<Integer> charter : charters) {
      if (fits(charter) && (best == null || meaning(charter, guild) > meaning(best, guild))) {
        best = charter;
      }
    }
    if (best == null) {
      return GAP;
    }
    lying.addAll(best);
    return meaning(best, guild);
  }

  int struck(int guild) {
    if (!isGuild(guild) || readings() == 0) {
      return NONE;
    }
    int found = NONE;
    int most = 0;
    for (int i = 0; i < row.size(); i++) {
      List<Integer> left = new ArrayList<>(row);
      left.remove(i);
      if (readingsOf(left) > 0 && (found == NONE || meaning(left, guild) > most)) {
        found = i;
        most = meaning(left, guild);
      }
    }
    return found;
  }

  int lies(int i) {
    return i >= 0 && i < lying.size() ? lying.get(i) : NONE;
  }

  // ---- seen

  int seen(int place, int word, boolean stood) {
    if (!isPlace(place) || !isWord(word) || seen.size() == 30) {
      return NONE;
    }
    Seen one = new Seen();
    one.place = place;
    one.word = word;
    one.stood = stood;
    one.told = time;
    seen.add(one);
    return seen.size() - 1;
  }

  boolean untell(int number) {
    if (number < 0 || number >= seen.size() || seen.get(number).untold != Integer.MAX_VALUE) {
      return false;
    }
    seen.get(number).untold = time;
    return true;
  }

  int later(int by) {
    if (by < 0 || by > 1000 || time + by > 100000) {
      return NONE;
    }
    time += by;
    return time;
  }

  int orders(int k) {
    if (spentFrom(new ArrayList<>())) {
      return -2;
    }
    if (charters.isEmpty()) {
      return 0;
    }
    int bits = 0;
    for (int order = 0; order < 6; order++) {
      List<Integer> charter = writtenBy(order);
      boolean can = true;
      for (Seen one : seen) {
        if (one.told <= k && (one.untold == Integer.MAX_VALUE || one.untold > k)) {
          can &= (charter.get(one.place) == one.word) == one.stood;
        }
      }
      bits |= can ? 1 << order : 0;
    }
    return bits;
  }

  int about(int what) {
    int[] all = {told.words.size(), told.pairs.size(), told.rules.size(), told.altCount, told.length, row.size(),
      done.size(), undone.size(), seen.size(), time, tape.length, lying.size()};
    return what >= 0 && what < all.length ? all[what] : NONE;
  }
}
