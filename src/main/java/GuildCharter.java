import java.util.Arrays;

/**
 * Charters that three guilds write by turns of a word each. The document ../shared/DOC.md says what
 * every public method answers; the words in capitals in the comments are its terms.
 */
public final class GuildCharter {
    public static final int NONE = -1;
    public static final int GAP = -1000000;

    /** The answer where NONE or 0 would say something else. */
    private static final int CANNOT = -2;
    private static final int GUILDS = 3;
    private static final int ALL_GUILDS = 7;
    private static final int TAPE_ROOM = 1600;
    private static final int MOST_WORDS = 8;
    private static final int MOST_PAIRS = 12;
    private static final int MOST_RULES = 8;
    private static final int MOST_ALTS = 24;
    private static final int MOST_PARTS = 4;
    private static final int MOST_PLACES = 6;
    private static final int MOST_TURNS = 6;
    private static final int MOST_ACTS = 40;
    private static final int MOST_SEEN = 30;
    private static final int MOST_ROWS = 3000;
    private static final int MOST_READINGS = 1000000000;
    private static final int MOST_BRIBE = 99;
    private static final int LATEST_TIME = 100000;
    private static final int LONGEST_WAIT = 1000;
    private static final int BOXES = 3;

    /** A part of an alt is a symbol: a WORD's number, or a RULE's number behind FIRST_RULE. */
    private static final int FIRST_RULE = 8;
    private static final int SYMBOLS = 16;

    private static final int ORDERS = 6;
    private static final int[] ORDER_GUILDS = {0, 1, 2, 0, 2, 1, 1, 0, 2, 1, 2, 0, 2, 0, 1, 2, 1, 0};

    private final byte[] tape = new byte[TAPE_ROOM];
    private int tapeSize;
    private final Parser parser = new Parser();
    // Two ports by turns: a text is read into the spare one, so that a FAULT leaves the other as it is.
    private Port told = new Port();
    private Port spare = new Port();
    private final Earnest earnest = new Earnest();
    private final Image[] boxes = {new Image(), new Image(), new Image()};
    private final Reader reader = new Reader();
    private final Tally tally = new Tally();
    private final Play play = new Play();
    private final Tree wholeTree = new Tree();
    private final Tree earnestTree = new Tree();
    private final Tree holeTree = new Tree();
    private int holes;
    private final Sightings sightings = new Sightings();
    private final int[] lying = new int[MOST_PLACES];
    private int lyingSize;
    private final int[] scratch = new int[SYMBOLS];

    public GuildCharter() {
    }

    public int feed(int a, int b, int c, int d, int e) {
        if (tapeSize + 20 > TAPE_ROOM) {
            return NONE;
        }
        tapeNumber(a);
        tapeNumber(b);
        tapeNumber(c);
        tapeNumber(d);
        tapeNumber(e);
        return tapeSize;
    }

    private void tapeNumber(int number) {
        for (int shift = 24; shift >= 0; shift -= 8) {
            if (tapeSize < TAPE_ROOM) {
                tape[tapeSize] = (byte) (number >> shift);
                tapeSize++;
            }
        }
    }

    public int end(int n) {
        if (n < 0 || n > tapeSize) {
            return NONE;
        }
        tapeSize = n;
        return n;
    }

    public int port() {
        if (!parser.readsInto(spare, tape, tapeSize)) {
            return NONE;
        }
        Port old = told;
        told = spare;
        spare = old;
        tapeSize = 0;
        forgetOldPort();
        return told.words;
    }

    private void forgetOldPort() {
        earnest.empty();
        for (int box = 0; box < BOXES; box++) {
            boxes[box].full = false;
        }
        tally.forget();
        wholeTree.forget();
        earnestTree.forget();
        holeTree.forget();
        play.forget();
        holes = 0;
        sightings.count = 0;
        lyingSize = 0;
    }

    public int fault(int what) {
        if (what == 0) {
            return parser.tokens.fault;
        }
        return what == 1 ? parser.tokens.faultPlace : NONE;
    }

    public int worth(int word, int guild) {
        return told.hasWord(word) && isGuild(guild) ? told.worths[word * GUILDS + guild] : GAP;
    }

    public int behind(int first, int second, int guild) {
        if (!told.hasWord(first) || !told.hasWord(second) || !isGuild(guild)) {
            return GAP;
        }
        return told.pairWorths[(first * MOST_WORDS + second) * GUILDS + guild];
    }

    public int turn(int place) {
        return told.hasPlace(place) ? ownerInEarnest(place) : NONE;
    }

    private int ownerInEarnest(int place) {
        return earnest.sold[place] != NONE ? earnest.sold[place] : told.turnAt(place);
    }

    private static boolean isGuild(int guild) {
        return guild >= 0 && guild < GUILDS;
    }

    public int write(int word) {
        if (!told.hasWord(word) || (nextInEarnest() >> word & 1) == 0) {
            return NONE;
        }
        earnest.putWord(word);
        return earnest.size;
    }

    public int sell(int place, int guild) {
        if (!isUnwritten(place) || !isGuild(guild)) {
            return NONE;
        }
        int owner = ownerInEarnest(place);
        earnest.putSale(place, guild);
        return owner;
    }

    private boolean isUnwritten(int place) {
        return told.hasPlace(place) && place >= earnest.size;
    }

    public boolean undo() {
        return earnest.takeBack();
    }

    public boolean redo() {
        return earnest.doAgain();
    }

    public int wipe() {
        int size = earnest.size;
        earnest.empty();
        return size;
    }

    public int word(int place) {
        return place >= 0 && place < earnest.size ? earnest.row[place] : NONE;
    }

    public int next() {
        return nextInEarnest();
    }

    private int nextInEarnest() {
        reader.readBeginning(told, earnest.row, earnest.size);
        return reader.nextWords(told, earnest.size);
    }

    public int readings() {
        return tally.countOf(told, earnest.row, earnest.size);
    }

    public int means(int guild) {
        return isGuild(guild) ? told.meaningOf(earnest.row, earnest.size, guild) : GAP;
    }

    public int written(int guild) {
        lyingSize = 0;
        Tree tree = growEarnest();
        if (!isGuild(guild) || !tree.hasCharters()) {
            return GAP;
        }
        ownAsInEarnest();
        int end = play.endOf(tree);
        lay(tree, end);
        return tree.meanings[end * GUILDS + guild];
    }

    private Tree growEarnest() {
        // From the empty ROW the tree is the whole one, which other calls use, too.
        Tree tree = earnest.size == 0 ? wholeTree : earnestTree;
        tree.growFrom(told, reader, earnest.row, earnest.size, 0);
        return tree;
    }

    private Tree growWhole() {
        wholeTree.growFrom(told, reader, earnest.row, 0, 0);
        return wholeTree;
    }

    private Tree growHoles() {
        Tree tree = holes == 0 ? wholeTree : holeTree;
        tree.growFrom(told, reader, earnest.row, 0, holes);
        return tree;
    }

    private void ownAsInEarnest() {
        for (int place = 0; place < told.length; place++) {
            play.owners[place] = ownerInEarnest(place);
        }
    }

    private void lay(Tree tree, int charter) {
        lyingSize = told.length;
        for (int place = 0; place < lyingSize; place++) {
            lying[place] = tree.wordAt(charter, place);
        }
    }

    public int held(int guilds) {
        Tree tree = growEarnest();
        if (guilds < 1 || guilds > ALL_GUILDS || !tree.hasCharters()) {
            return GAP;
        }
        ownAsInEarnest();
        return play.heldBy(tree, guilds);
    }

    public int share(int guild, int what) {
        Tree tree = growEarnest();
        if (!isGuild(guild) || what < 0 || what > 1 || !tree.hasCharters()) {
            return GAP;
        }
        ownAsInEarnest();
        int sum = sixShares(tree, guild);
        int common = sum % 6 == 0 ? 6 : sum % 3 == 0 ? 3 : sum % 2 == 0 ? 2 : 1;
        return what == 0 ? sum / common : 6 / common;
    }

    private int sixShares(Tree tree, int guild) {
        scratch[0] = 0;
        for (int set = 1; set <= ALL_GUILDS; set++) {
            scratch[set] = play.heldBy(tree, set);
        }
        int sum = 0;
        for (int order = 0; order < ORDERS; order++) {
            int ahead = 0;
            for (int i = 0; i < GUILDS && ORDER_GUILDS[order * GUILDS + i] != guild; i++) {
                ahead |= 1 << ORDER_GUILDS[order * GUILDS + i];
            }
            sum += scratch[ahead | 1 << guild] - scratch[ahead];
        }
        return sum;
    }

    public int swap() {
        Tree tree = growEarnest();
        if (!tree.hasCharters()) {
            return NONE;
        }
        ownAsInEarnest();
        return play.firstSwap(tree, earnest.size);
    }

    public int bribe(int place, int word) {
        if (!isUnwritten(place) || !told.hasWord(word)) {
            return CANNOT;
        }
        Tree tree = growEarnest();
        if (!tree.hasCharters()) {
            return NONE;
        }
        ownAsInEarnest();
        return play.leastBribe(tree, place, word);
    }

    public int used() {
        told.findShortest(scratch);
        return told.rulesOfUse(scratch);
    }

    public int shortest(int rule) {
        if (rule < 0 || rule >= told.rules) {
            return NONE;
        }
        told.findShortest(scratch);
        return scratch[FIRST_RULE + rule];
    }

    public int doubtful() {
        lyingSize = 0;
        Tree tree = growWhole();
        if (tree.spent) {
            return CANNOT;
        }
        for (int node = 0; node < tree.size; node++) {
            if (tree.isCharter(node)) {
                tree.wordsInto(node, scratch);
                int ways = tally.countOf(told, scratch, told.length);
                if (ways > 1) {
                    lay(tree, node);
                    return ways;
                }
            }
        }
        return 0;
    }

    public int lots(int guild) {
        Tree tree = growWhole();
        if (!isGuild(guild) || !tree.hasCharters()) {
            return GAP;
        }
        play.findLotEnds(tree);
        int sum = 0;
        for (int order = 0; order < ORDERS; order++) {
            sum += tree.meanings[play.lotEnds[order] * GUILDS + guild];
        }
        return sum;
    }

    public boolean hole(int place, int word) {
        if (!told.hasPlace(place) || word != NONE && !told.hasWord(word)) {
            return false;
        }
        int shift = place * Tree.HOLE_BITS;
        holes = holes & ~(Tree.HOLE_MASK << shift) | (word + 1) << shift;
        return true;
    }

    public int fit() {
        Tree tree = growHoles();
        if (tree.spent) {
            return CANNOT;
        }
        int count = 0;
        for (int node = 0; node < tree.size; node++) {
            if (tree.isCharter(node)) {
                count++;
            }
        }
        return count;
    }

    public int best(int guild) {
        lyingSize = 0;
        Tree tree = growHoles();
        if (!isGuild(guild) || tree.spent) {
            return GAP;
        }
        int most = GAP;
        for (int node = 0; node < tree.size; node++) {
            if (tree.isCharter(node) && tree.meanings[node * GUILDS + guild] > most) {
                most = tree.meanings[node * GUILDS + guild];
                lay(tree, node);
            }
        }
        return most;
    }

    public int struck(int guild) {
        if (!isGuild(guild) || tally.countOf(told, earnest.row, earnest.size) == 0) {
            return NONE;
        }
        int most = GAP;
        int found = NONE;
        for (int place = 0; place < earnest.size; place++) {
            int left = earnest.rowWithout(place, scratch);
            if (tally.countOf(told, scratch, left) > 0) {
                int meaning = told.meaningOf(scratch, left, guild);
                if (meaning > most) {
                    most = meaning;
                    found = place;
                }
            }
        }
        return found;
    }

    public int lies(int i) {
        return i >= 0 && i < lyingSize ? lying[i] : NONE;
    }

    public int seen(int place, int word, boolean stood) {
        if (!told.hasPlace(place) || !told.hasWord(word)) {
            return NONE;
        }
        return sightings.tell(place, word, stood);
    }

    public boolean untell(int seen) {
        return sightings.takeBack(seen);
    }

    public int later(int by) {
        if (by < 0 || by > LONGEST_WAIT || sightings.time + by > LATEST_TIME) {
            return NONE;
        }
        sightings.time += by;
        return sightings.time;
    }

    public int orders(int k) {
        Tree tree = growWhole();
        if (tree.spent) {
            return CANNOT;
        }
        if (!tree.hasCharters()) {
            return 0;
        }
        play.findLotEnds(tree);
        int bits = 0;
        for (int order = 0; order < ORDERS; order++) {
            if (sightings.agree(tree, play.lotEnds[order], k)) {
                bits |= 1 << order;
            }
        }
        return bits;
    }

    public int image(int box) {
        if (box < 0 || box >= BOXES) {
            return NONE;
        }
        boxes[box].keep(earnest);
        return earnest.size;
    }

    public int back(int box) {
        if (box < 0 || box >= BOXES || !boxes[box].full) {
            return NONE;
        }
        boxes[box].giveBack(earnest);
        return earnest.size;
    }

    public int about(int what) {
        switch (what) {
            case 0: return told.words;
            case 1: return told.pairs;
            case 2: return told.rules;
            case 3: return told.alts;
            case 4: return told.length;
            case 5: return earnest.size;
            case 6: return earnest.done;
            case 7: return earnest.kept - earnest.done;
            case 8: return sightings.count;
            case 9: return sightings.time;
            case 10: return tapeSize;
            case 11: return lyingSize;
            default: return NONE;
        }
    }

    /** What a text without FAULTS tells. */
    private static final class Port {
        int words;
        final long[] wordNames = new long[MOST_WORDS];
        final int[] worths = new int[MOST_WORDS * GUILDS];
        int pairs;
        final boolean[] paired = new boolean[MOST_WORDS * MOST_WORDS];
        final int[] pairWorths = new int[MOST_WORDS * MOST_WORDS * GUILDS];
        int rules;
        final long[] ruleNames = new long[MOST_RULES];
        /** The alts of a RULE are those from its first one up to the next RULE's first one. */
        final int[] firstAlts = new int[MOST_RULES + 1];
        int alts;
        final int[] altSizes = new int[MOST_ALTS];
        final int[] altParts = new int[MOST_ALTS * MOST_PARTS];
        int length;
        boolean lengthTold;
        int turnCount;
        final int[] turns = new int[MOST_TURNS];

        Port() {
            length = 3;
        }

        void empty() {
            words = 0;
            pairs = 0;
            Arrays.fill(pairWorths, 0);
            for (int i = 0; i < paired.length; i++) {
                paired[i] = false;
            }
            rules = 0;
            firstAlts[0] = 0;
            alts = 0;
            length = 3;
            lengthTold = false;
            turnCount = 0;
        }

        boolean hasWord(int word) {
            return word >= 0 && word < words;
        }

        boolean hasPlace(int place) {
            return place >= 0 && place < length;
        }

        int turnAt(int place) {
            return turnCount > 0 ? turns[place % turnCount] : place % GUILDS;
        }

        /** The symbol of a NAME; NONE if neither a WORD nor a RULE has it. */
        int symbolOf(long name) {
            for (int word = 0; word < words; word++) {
                if (wordNames[word] == name) {
                    return word;
                }
            }
            for (int rule = 0; rule < rules; rule++) {
                if (ruleNames[rule] == name) {
                    return FIRST_RULE + rule;
                }
            }
            return NONE;
        }

        int meaningOf(int[] row, int size, int guild) {
            int sum = 0;
            for (int place = 0; place < size; place++) {
                sum += meaningBehind(place > 0 ? row[place - 1] : NONE, row[place], guild);
            }
            return sum;
        }

        /** What a WORD adds for a GUILD, directly behind another one or behind NONE. */
        int meaningBehind(int before, int word, int guild) {
            int own = worths[word * GUILDS + guild];
            return before == NONE ? own : own + pairWorths[(before * MOST_WORDS + word) * GUILDS + guild];
        }

        /** By symbol: SHORTEST, 0 for those that READ nothing. */
        void findShortest(int[] sizes) {
            for (int symbol = 0; symbol < SYMBOLS; symbol++) {
                sizes[symbol] = symbol < words ? 1 : 0;
            }
            // Each pass settles at least the RULE that is shortest of those not settled yet.
            for (int pass = 0; pass < rules; pass++) {
                for (int rule = 0; rule < rules; rule++) {
                    for (int alt = firstAlts[rule]; alt < firstAlts[rule + 1]; alt++) {
                        int size = sizeOfAlt(alt, sizes);
                        int old = sizes[FIRST_RULE + rule];
                        if (size > 0 && (old == 0 || size < old)) {
                            sizes[FIRST_RULE + rule] = size;
                        }
                    }
                }
            }
        }

        private int sizeOfAlt(int alt, int[] sizes) {
            int sum = 0;
            for (int part = 0; part < altSizes[alt]; part++) {
                int size = sizes[altParts[alt * MOST_PARTS + part]];
                if (size == 0) {
                    return 0;
                }
                sum += size;
            }
            return sum;
        }

        int rulesOfUse(int[] sizes) {
            int bits = rules > 0 && sizes[FIRST_RULE] > 0 ? 1 : 0;
            // Each pass but the last one reaches a RULE more: so many passes as RULES reach all.
            for (int pass = 0; pass < rules; pass++) {
                for (int rule = 0; rule < rules; rule++) {
                    if ((bits >> rule & 1) != 0) {
                        bits |= rulesNextTo(rule, sizes);
                    }
                }
            }
            return bits;
        }

        private int rulesNextTo(int rule, int[] sizes) {
            int bits = 0;
            for (int alt = firstAlts[rule]; alt < firstAlts[rule + 1]; alt++) {
                if (sizeOfAlt(alt, sizes) > 0) {
                    for (int part = 0; part < altSizes[alt]; part++) {
                        int symbol = altParts[alt * MOST_PARTS + part];
                        bits |= symbol >= FIRST_RULE ? 1 << (symbol - FIRST_RULE) : 0;
                    }
                }
            }
            return bits;
        }
    }

    /** The TOKENS of a text, one at hand, and the first FAULT that was found in it. */
    private static final class Tokens {
        static final int END = 0;
        static final int BAD = 1;
        static final int SEMICOLON = 2;
        static final int EQUALS = 3;
        static final int NUMBER = 4;
        static final int NAME = 5;
        static final int KEY_WORD = 6;
        static final int KEY_PAIR = 7;
        static final int KEY_RULE = 8;
        static final int KEY_OR = 9;
        static final int KEY_LENGTH = 10;
        static final int KEY_TURNS = 11;

        private static final int LONGEST_NAME = 8;
        private static final int LONGEST_NUMBER = 4;
        /** Names are numbers: five bits a letter, 1 for a. */
        private static final int LETTER_BITS = 5;
        private static final int BEFORE_A = 'a' - 1;

        /** In the order of their kinds, from KEY_WORD on. */
        private final long[] keyNames = {
            packed("word"), packed("pair"), packed("rule"), packed("or"), packed("length"), packed("turns")};
        private byte[] text = new byte[0];
        private int size;
        private int behind;
        int place;
        int kind;
        long name;
        int number;
        int fault;
        int faultPlace = NONE;

        private static long packed(String letters) {
            long bits = 0;
            for (int i = 0; i < letters.length(); i++) {
                bits = bits << LETTER_BITS | letters.charAt(i) - BEFORE_A;
            }
            return bits;
        }

        void begin(byte[] bytes, int count) {
            text = bytes;
            size = Math.min(count, bytes.length);
            behind = 0;
            fault = 0;
            faultPlace = NONE;
            advance();
        }

        /** A FAULT at the TOKEN at hand; texts are read forwards, so the first one found is the first. */
        boolean refuse(int what) {
            if (fault == 0) {
                fault = what;
                faultPlace = place;
            }
            return false;
        }

        void advance() {
            place = behind;
            while (place < size && (text[place] == ' ' || text[place] == '\n')) {
                place++;
            }
            behind = place;
            int sign = place < size ? text[place] : 0;
            if (place >= size) {
                kind = END;
            } else if (sign >= 'a' && sign <= 'z') {
                takeLetters();
            } else if (sign >= '0' && sign <= '9') {
                takeDigits();
            } else {
                kind = sign == ';' ? SEMICOLON : sign == '=' ? EQUALS : BAD;
                behind = place + 1;
            }
            if (kind == BAD) {
                refuse(1);
            }
        }

        private void takeLetters() {
            name = 0;
            while (behind < size && text[behind] >= 'a' && text[behind] <= 'z') {
                name = name << LETTER_BITS | text[behind] - BEFORE_A;
                behind++;
            }
            kind = NAME;
            for (int key = 0; key < keyNames.length; key++) {
                if (name == keyNames[key]) {
                    kind = KEY_WORD + key;
                }
            }
            if (behind - place > LONGEST_NAME) {
                kind = BAD;
            }
        }

        private void takeDigits() {
            number = 0;
            while (behind < size && text[behind] >= '0' && text[behind] <= '9') {
                number = number * 10 + text[behind] - '0';
                behind++;
            }
            boolean letterBehind = behind < size && text[behind] >= 'a' && text[behind] <= 'z';
            kind = letterBehind || behind - place > LONGEST_NUMBER ? BAD : NUMBER;
        }
    }

    /** Reads a text into a Port. Its methods answer whether there was no FAULT so far. */
    private static final class Parser {
        final Tokens tokens = new Tokens();
        private Port port = new Port();
        private final long[] partNames = new long[MOST_ALTS * MOST_PARTS];
        private final int[] partPlaces = new int[MOST_ALTS * MOST_PARTS];

        boolean readsInto(Port target, byte[] text, int size) {
            port = target;
            port.empty();
            tokens.begin(text, size);
            boolean good = tokens.fault == 0;
            for (int line = 0; line < TAPE_ROOM && good && tokens.kind != Tokens.END; line++) {
                switch (tokens.kind) {
                    case Tokens.KEY_WORD: good = readWord(); break;
                    case Tokens.KEY_PAIR: good = readPair(); break;
                    case Tokens.KEY_RULE: good = readRule(); break;
                    case Tokens.KEY_LENGTH: good = readLength(); break;
                    case Tokens.KEY_TURNS: good = readTurns(); break;
                    default: good = tokens.refuse(2); break;
                }
                good = good && pass(Tokens.SEMICOLON);
            }
            return good && bindParts();
        }

        /** Goes on behind a TOKEN that has to stand here. */
        private boolean pass(int kind) {
            if (tokens.kind != kind) {
                return tokens.refuse(2);
            }
            tokens.advance();
            return tokens.fault == 0;
        }

        /** Goes on behind the first word of a line, if one more of its sort can be. */
        private boolean passFirst(boolean oneMore) {
            return oneMore ? pass(tokens.kind) : tokens.refuse(2);
        }

        private boolean readWord() {
            if (!passFirst(port.words < MOST_WORDS)) {
                return false;
            }
            long name = tokens.name;
            if (!passNewName() || !readWorths(port.worths, port.words * GUILDS)) {
                return false;
            }
            port.wordNames[port.words] = name;
            port.words++;
            return true;
        }

        private boolean passNewName() {
            if (tokens.kind == Tokens.NAME && port.symbolOf(tokens.name) != NONE) {
                return tokens.refuse(3);
            }
            return pass(Tokens.NAME);
        }

        private boolean readWorths(int[] worths, int first) {
            for (int guild = 0; guild < GUILDS; guild++) {
                int number = tokens.number;
                if (!passNumber(0, 99)) {
                    return false;
                }
                worths[first + guild] = number - 50;
            }
            return true;
        }

        private boolean passNumber(int least, int most) {
            if (tokens.kind != Tokens.NUMBER) {
                return tokens.refuse(2);
            }
            if (tokens.number < least || tokens.number > most) {
                return tokens.refuse(4);
            }
            tokens.advance();
            return tokens.fault == 0;
        }

        private boolean readPair() {
            if (!passFirst(port.pairs < MOST_PAIRS)) {
                return false;
            }
            int first = symbolAtHand();
            if (!passPairName(first, false)) {
                return false;
            }
            int second = symbolAtHand();
            int pair = first * MOST_WORDS + second;
            boolean again = port.hasWord(second) && port.paired[pair];
            if (!passPairName(second, again) || !readWorths(port.pairWorths, pair * GUILDS)) {
                return false;
            }
            port.paired[pair] = true;
            port.pairs++;
            return true;
        }

        private int symbolAtHand() {
            return tokens.kind == Tokens.NAME ? port.symbolOf(tokens.name) : NONE;
        }

        private boolean passPairName(int symbol, boolean again) {
            if (tokens.kind != Tokens.NAME) {
                return tokens.refuse(2);
            }
            if (again) {
                return tokens.refuse(3);
            }
            return port.hasWord(symbol) ? pass(Tokens.NAME) : tokens.refuse(5);
        }

        private boolean readRule() {
            if (!passFirst(port.rules < MOST_RULES)) {
                return false;
            }
            long name = tokens.name;
            if (!passNewName() || !pass(Tokens.EQUALS)) {
                return false;
            }
            port.ruleNames[port.rules] = name;
            port.rules++;
            boolean more = true;
            for (int alt = 0; alt <= MOST_ALTS && more; alt++) {
                if (!readAlt()) {
                    return false;
                }
                more = tokens.kind == Tokens.KEY_OR;
                if (more && !pass(Tokens.KEY_OR)) {
                    return false;
                }
            }
            port.firstAlts[port.rules] = port.alts;
            return true;
        }

        private boolean readAlt() {
            if (port.alts >= MOST_ALTS || tokens.kind != Tokens.NAME) {
                return tokens.refuse(2);
            }
            int size = 0;
            for (; size < MOST_PARTS && tokens.kind == Tokens.NAME; size++) {
                partNames[port.alts * MOST_PARTS + size] = tokens.name;
                partPlaces[port.alts * MOST_PARTS + size] = tokens.place;
                if (!pass(Tokens.NAME)) {
                    return false;
                }
            }
            port.altSizes[port.alts] = size;
            port.alts++;
            return tokens.kind != Tokens.NAME || tokens.refuse(2);
        }

        private boolean readLength() {
            if (!passFirst(!port.lengthTold)) {
                return false;
            }
            int number = tokens.number;
            if (!passNumber(1, MOST_PLACES)) {
                return false;
            }
            port.length = number;
            port.lengthTold = true;
            return true;
        }

        private boolean readTurns() {
            if (!passFirst(port.turnCount == 0) || tokens.kind != Tokens.NUMBER) {
                return tokens.refuse(2);
            }
            for (int i = 0; i < MOST_TURNS && tokens.kind == Tokens.NUMBER; i++) {
                int number = tokens.number;
                if (!passNumber(0, GUILDS - 1)) {
                    return false;
                }
                port.turns[i] = number;
                port.turnCount = i + 1;
            }
            return true;
        }

        /** NAMES of alts may be told anywhere, so they are looked up behind the last line. */
        private boolean bindParts() {
            for (int rule = 0; rule < port.rules; rule++) {
                for (int alt = port.firstAlts[rule]; alt < port.firstAlts[rule + 1]; alt++) {
                    if (!bindAlt(rule, alt)) {
                        return false;
                    }
                }
            }
            return true;
        }

        private boolean bindAlt(int rule, int alt) {
            for (int part = 0; part < port.altSizes[alt]; part++) {
                int at = alt * MOST_PARTS + part;
                int symbol = port.symbolOf(partNames[at]);
                // A FAULT is told at the TOKEN at hand: here that is this NAME once more.
                tokens.place = partPlaces[at];
                if (symbol == NONE) {
                    return tokens.refuse(6);
                }
                boolean alone = port.altSizes[alt] == 1;
                if (alone && symbol >= FIRST_RULE && symbol - FIRST_RULE <= rule) {
                    return tokens.refuse(7);
                }
                port.altParts[at] = symbol;
            }
            return true;
        }
    }

    /** The ROW in earnest, its SOLD turns and its ACTS. */
    private static final class Earnest {
        final int[] row = new int[MOST_PLACES];
        int size;
        final int[] sold = new int[MOST_PLACES];
        private final boolean[] sales = new boolean[MOST_ACTS];
        private final int[] places = new int[MOST_ACTS];
        private final int[] befores = new int[MOST_ACTS];
        private final int[] afters = new int[MOST_ACTS];
        /** ACTS that can be undone come first, then those that can be redone, up to those kept. */
        int done;
        int kept;

        Earnest() {
            Arrays.fill(sold, NONE);
        }

        void empty() {
            size = 0;
            Arrays.fill(sold, NONE);
            forgetActs();
        }

        void forgetActs() {
            done = 0;
            kept = 0;
        }

        void putWord(int word) {
            note(false, size, NONE, word);
            doAgain();
        }

        void putSale(int place, int guild) {
            note(true, place, sold[place], guild);
            doAgain();
        }

        private void note(boolean sale, int place, int before, int after) {
            if (done >= MOST_ACTS) {
                dropOldest();
            }
            sales[done] = sale;
            places[done] = place;
            befores[done] = before;
            afters[done] = after;
            kept = done + 1;
        }

        private void dropOldest() {
            for (int act = 1; act < MOST_ACTS; act++) {
                sales[act - 1] = sales[act];
                places[act - 1] = places[act];
                befores[act - 1] = befores[act];
                afters[act - 1] = afters[act];
            }
            done = MOST_ACTS - 1;
        }

        boolean takeBack() {
            if (done <= 0) {
                return false;
            }
            done--;
            if (sales[done]) {
                sold[places[done]] = befores[done];
            } else {
                size = places[done];
            }
            return true;
        }

        boolean doAgain() {
            if (done >= kept) {
                return false;
            }
            int place = places[done];
            if (sales[done]) {
                sold[place] = afters[done];
            } else {
                row[place] = afters[done];
                size = place + 1;
            }
            done++;
            return true;
        }

        /** Puts the ROW without the WORD at a PLACE into a row: how many WORDS are left. */
        int rowWithout(int place, int[] left) {
            int count = 0;
            for (int i = 0; i < size; i++) {
                if (i != place) {
                    left[count] = row[i];
                    count++;
                }
            }
            return count;
        }
    }

    /** What a BOX keeps. */
    private static final class Image {
        boolean full;
        private final int[] row = new int[MOST_PLACES];
        private int size;
        private final int[] sold = new int[MOST_PLACES];

        void keep(Earnest earnest) {
            full = true;
            size = earnest.size;
            System.arraycopy(earnest.row, 0, row, 0, MOST_PLACES);
            System.arraycopy(earnest.sold, 0, sold, 0, MOST_PLACES);
        }

        void giveBack(Earnest earnest) {
            earnest.size = size;
            System.arraycopy(row, 0, earnest.row, 0, MOST_PLACES);
            System.arraycopy(sold, 0, earnest.sold, 0, MOST_PLACES);
            earnest.forgetActs();
        }
    }

    /**
     * By which WORDS a ROW can GO ON. PLACES behind the next one may be any WORDS, each by itself, so
     * they are READ with all WORDS at once; at the next PLACE all WORDS are tried at once, a bit each.
     * Columns are by ends, so that those of a ROW's beginning stay.
     */
    private static final class Reader {
        /** A column's number has a lane of bits for each start: the WORDS at the next PLACE. */
        private static final int LANE_BITS = 8;
        private static final long ANY_WORD = 255;
        private static final long EACH_START = 0x10101010101L;

        /** By end and symbol: from which starts it READS up to this end, by which WORDS. */
        private final long[] columns = new long[(MOST_PLACES + 1) * SYMBOLS];
        /** The same where the end is that of the next PLACE; longer ROWS leave these as they are. */
        private final long[] choices = new long[(MOST_PLACES + 1) * SYMBOLS];

        void readBeginning(Port port, int[] row, int size) {
            for (int place = 0; place < size; place++) {
                fillColumn(port, place + 1, 1 << row[place], false);
            }
        }

        /** WORDS, as bits, by which the ROW whose columns stand can GO ON, or is a CHARTER then. */
        int nextWords(Port port, int size) {
            if (size >= port.length || port.rules == 0) {
                return 0;
            }
            int all = (1 << port.words) - 1;
            fillColumn(port, size + 1, all, true);
            System.arraycopy(columns, (size + 1) * SYMBOLS, choices, (size + 1) * SYMBOLS, SYMBOLS);
            for (int end = size + 2; end <= port.length; end++) {
                fillColumn(port, end, all, false);
            }
            return (int) (columns[port.length * SYMBOLS + FIRST_RULE] & ANY_WORD);
        }

        /** The ROW for whose size nextWords was asked goes on by a WORD. */
        void goOn(int size, int word) {
            for (int symbol = 0; symbol < SYMBOLS; symbol++) {
                int at = (size + 1) * SYMBOLS + symbol;
                columns[at] = (choices[at] >> word & EACH_START) * ANY_WORD;
            }
        }

        private void fillColumn(Port port, int end, int words, boolean tried) {
            beginColumn(end, words, tried);
            boolean changed = true;
            // Each pass settles a start more, the last start first.
            for (int pass = 0; pass < end && changed; pass++) {
                changed = false;
                // The one NAME of an alt is a later RULE's, if any: so the last RULE comes first.
                for (int rule = port.rules - 1; rule >= 0; rule--) {
                    int at = end * SYMBOLS + FIRST_RULE + rule;
                    long bits = columns[at];
                    for (int alt = port.firstAlts[rule]; alt < port.firstAlts[rule + 1]; alt++) {
                        bits |= startsOfAlt(port, alt, end);
                    }
                    changed |= bits != columns[at];
                    columns[at] = bits;
                }
            }
        }

        private void beginColumn(int end, int words, boolean tried) {
            int lastLane = (end - 1) * LANE_BITS;
            for (int symbol = 0; symbol < SYMBOLS; symbol++) {
                boolean fits = symbol < FIRST_RULE && (words >> symbol & 1) != 0;
                long lane = tried ? 1L << symbol : ANY_WORD;
                columns[end * SYMBOLS + symbol] = fits ? lane << lastLane : 0;
            }
        }

        private long startsOfAlt(Port port, int alt, int end) {
            int last = port.altSizes[alt] - 1;
            long bits = columns[end * SYMBOLS + port.altParts[alt * MOST_PARTS + last]];
            for (int part = last - 1; part >= 0 && bits != 0; part--) {
                int symbol = port.altParts[alt * MOST_PARTS + part];
                long further = 0;
                for (int cut = 1; cut < end; cut++) {
                    long words = bits >> cut * LANE_BITS & ANY_WORD;
                    if (words != 0) {
                        further |= columns[cut * SYMBOLS + symbol] & words * EACH_START;
                    }
                }
                bits = further;
            }
            return bits;
        }
    }

    /** READINGS of ROWS. What was counted of a ROW serves the next one as far as both begin alike. */
    private static final class Tally {
        private static final int ENDS = MOST_PLACES + 1;
        private final int[] row = new int[MOST_PLACES];
        private int size;
        /** By start, end and symbol: in how many ways it READS these WORDS. */
        private final int[] ways = new int[ENDS * ENDS * SYMBOLS];

        void forget() {
            size = 0;
        }

        int countOf(Port port, int[] words, int count) {
            int same = 0;
            while (same < size && same < count && row[same] == words[same]) {
                same++;
            }
            for (int place = same; place < count; place++) {
                row[place] = words[place];
                fillColumn(port, place + 1);
            }
            size = count;
            return count > 0 && port.rules > 0 ? ways[count * SYMBOLS + FIRST_RULE] : 0;
        }

        private void fillColumn(Port port, int end) {
            for (int start = end - 1; start >= 0; start--) {
                int first = (start * ENDS + end) * SYMBOLS;
                for (int word = 0; word < FIRST_RULE; word++) {
                    ways[first + word] = start == end - 1 && row[start] == word ? 1 : 0;
                }
                // The one NAME of an alt is a later RULE's, if any: so the last RULE comes first.
                for (int rule = port.rules - 1; rule >= 0; rule--) {
                    long sum = 0;
                    for (int alt = port.firstAlts[rule]; alt < port.firstAlts[rule + 1]; alt++) {
                        sum += waysOfAlt(port, alt, 0, start, end);
                    }
                    ways[first + FIRST_RULE + rule] = (int) Math.min(sum, MOST_READINGS);
                }
            }
        }

        /** In how many ways the parts of an alt, from one on, READ the WORDS; four parts at most. */
        private int waysOfAlt(Port port, int alt, int part, int start, int end) {
            int symbol = port.altParts[alt * MOST_PARTS + part];
            if (part >= port.altSizes[alt] - 1 || part >= MOST_PARTS - 1) {
                return ways[(start * ENDS + end) * SYMBOLS + symbol];
            }
            long sum = 0;
            for (int cut = start + 1; cut < end; cut++) {
                long heads = ways[(start * ENDS + cut) * SYMBOLS + symbol];
                if (heads > 0) {
                    sum = Math.min(sum + heads * waysOfAlt(port, alt, part + 1, cut, end), MOST_READINGS);
                }
            }
            return (int) sum;
        }
    }

    /**
     * The ROWS that can GO ON, or are CHARTERS, and begin with one ROW: each behind the ROW that it
     * comes of, those of one length by their WORDS. It is kept till another one is asked for.
     */
    private static final class Tree {
        static final int HOLE_BITS = 4;
        static final int HOLE_MASK = 15;
        private static final int WORD_BITS = 3;
        private static final int WORD_MASK = 7;

        int size;
        boolean spent;
        final int[] parents = new int[MOST_ROWS];
        final int[] depths = new int[MOST_ROWS];
        final int[] meanings = new int[MOST_ROWS * GUILDS];
        private final int[] rows = new int[MOST_ROWS];
        private int length;
        private boolean grown;
        private int rootRow;
        private int rootDepth;
        private int holes;

        void forget() {
            grown = false;
        }

        /** With holes each PLACE has bits: 0 for a hole, or the WORD and one. */
        void growFrom(Port port, Reader reader, int[] row, int count, int pattern) {
            int packed = 0;
            for (int place = 0; place < count; place++) {
                packed = packed << WORD_BITS | row[place];
            }
            if (grown && packed == rootRow && count == rootDepth && pattern == holes) {
                return;
            }
            grown = true;
            rootRow = packed;
            rootDepth = count;
            holes = pattern;
            length = port.length;
            spent = false;
            addRoot(port, row);
            reader.readBeginning(port, row, count);
            grow(port, reader, 0);
            // Behind a ROW that can GO ON there is a longer one; without holes that is all it takes.
            if (size == 1 && count < length) {
                size = 0;
            }
        }

        private void addRoot(Port port, int[] row) {
            size = 1;
            parents[0] = NONE;
            depths[0] = rootDepth;
            rows[0] = rootRow;
            for (int guild = 0; guild < GUILDS; guild++) {
                meanings[guild] = port.meaningOf(row, rootDepth, guild);
            }
        }

        /** Each level is one WORD deeper: six levels at most. */
        private void grow(Port port, Reader reader, int node) {
            int depth = depths[node];
            int next = reader.nextWords(port, depth);
            int only = (holes >> depth * HOLE_BITS & HOLE_MASK) - 1;
            for (int word = 0; word < port.words && !spent; word++) {
                if ((only == NONE || only == word) && (next >> word & 1) != 0) {
                    if (size >= MOST_ROWS) {
                        spent = true;
                    } else {
                        add(port, node, word);
                        growBehind(port, reader, depth, word);
                    }
                }
            }
        }

        private void growBehind(Port port, Reader reader, int depth, int word) {
            if (depth + 1 < length) {
                reader.goOn(depth, word);
                grow(port, reader, size - 1);
            }
        }

        private void add(Port port, int parent, int word) {
            int before = depths[parent] > 0 ? rows[parent] & WORD_MASK : NONE;
            parents[size] = parent;
            depths[size] = depths[parent] + 1;
            rows[size] = rows[parent] << WORD_BITS | word;
            for (int guild = 0; guild < GUILDS; guild++) {
                meanings[size * GUILDS + guild] =
                    meanings[parent * GUILDS + guild] + port.meaningBehind(before, word, guild);
            }
            size++;
        }

        boolean hasCharters() {
            return !spent && size > 0;
        }

        boolean isCharter(int node) {
            return depths[node] == length;
        }

        int wordAt(int charter, int place) {
            return rows[charter] >> (length - 1 - place) * WORD_BITS & WORD_MASK;
        }

        void wordsInto(int charter, int[] row) {
            for (int place = 0; place < length; place++) {
                row[place] = wordAt(charter, place);
            }
        }
    }

    /** Best play down a tree without holes that has CHARTERS. */
    private static final class Play {
        /** Whose turn each PLACE is. */
        final int[] owners = new int[MOST_PLACES];
        /** By node: the CHARTER that is WRITTEN from it, or what is HELD from it. */
        private final int[] results = new int[MOST_ROWS];
        final int[] lotEnds = new int[ORDERS];
        private boolean lotsKnown;
        private int bribed = NONE;
        private int bribedPlace;
        private int bribedWord;
        private int bribe;
        private int nextBribe;

        void forget() {
            lotsKnown = false;
        }

        /** The CHARTERS WRITTEN by the six orders, down the whole tree of the PORT. */
        void findLotEnds(Tree tree) {
            for (int order = 0; order < ORDERS && !lotsKnown; order++) {
                for (int place = 0; place < tree.length; place++) {
                    owners[place] = ORDER_GUILDS[order * GUILDS + place % GUILDS];
                }
                lotEnds[order] = endOf(tree);
            }
            lotsKnown = true;
        }

        /** The CHARTER that is WRITTEN. */
        int endOf(Tree tree) {
            clearResults(tree.size, NONE);
            // Nodes stand behind those they come of: backwards, each is settled when its turn comes.
            for (int node = tree.size - 1; node > 0; node--) {
                if (tree.isCharter(node)) {
                    results[node] = node;
                }
                offer(tree, tree.parents[node], results[node]);
            }
            return results[0] == NONE ? 0 : results[0];
        }

        private void clearResults(int count, int clear) {
            for (int node = 0; node < count; node++) {
                results[node] = clear;
            }
        }

        private void offer(Tree tree, int node, int charter) {
            int later = results[node];
            if (later == NONE || charter == NONE) {
                results[node] = later == NONE ? charter : later;
                return;
            }
            int guild = owners[tree.depths[node]];
            // Of like ones the first WORD, and first ones are offered last.
            boolean taken = worthTo(tree, charter, guild) >= worthTo(tree, later, guild);
            if (guild == bribed) {
                int more = tree.meanings[later * GUILDS + guild] - tree.meanings[charter * GUILDS + guild];
                if (taken && !isBribed(tree, charter) && isBribed(tree, later)) {
                    nextBribe = Math.min(nextBribe, 1 - more);
                }
                if (!taken && isBribed(tree, charter) && !isBribed(tree, later)) {
                    nextBribe = Math.min(nextBribe, more);
                }
            }
            if (taken) {
                results[node] = charter;
            }
        }

        private int worthTo(Tree tree, int charter, int guild) {
            int meaning = tree.meanings[charter * GUILDS + guild];
            return guild == bribed && isBribed(tree, charter) ? meaning + bribe : meaning;
        }

        private boolean isBribed(Tree tree, int charter) {
            return tree.wordAt(charter, bribedPlace) == bribedWord;
        }

        /** From one bribe on to the least at which a choice changes, as nothing changes between. */
        int leastBribe(Tree tree, int place, int word) {
            bribed = owners[place];
            bribedPlace = place;
            bribedWord = word;
            bribe = 0;
            int found = NONE;
            for (int tries = 0; tries <= MOST_BRIBE && bribe <= MOST_BRIBE && found == NONE; tries++) {
                nextBribe = MOST_BRIBE + 1;
                if (isBribed(tree, endOf(tree))) {
                    found = bribe;
                }
                bribe = nextBribe;
            }
            bribed = NONE;
            return found;
        }

        /** SWAP of PLACES from one on; NONE if there is none. */
        int firstSwap(Tree tree, int from) {
            int plain = endOf(tree);
            for (int first = from; first < tree.length; first++) {
                for (int second = first + 1; second < tree.length; second++) {
                    int one = owners[first];
                    int other = owners[second];
                    if (one != other) {
                        owners[first] = other;
                        owners[second] = one;
                        int end = endOf(tree);
                        owners[first] = one;
                        owners[second] = other;
                        if (meansMore(tree, end, plain, one) && meansMore(tree, end, plain, other)) {
                            return 10 * first + second;
                        }
                    }
                }
            }
            return NONE;
        }

        private static boolean meansMore(Tree tree, int charter, int other, int guild) {
            return tree.meanings[charter * GUILDS + guild] > tree.meanings[other * GUILDS + guild];
        }

        int heldBy(Tree tree, int guilds) {
            clearResults(tree.size, GAP);
            for (int node = tree.size - 1; node >= 0; node--) {
                if (tree.isCharter(node)) {
                    results[node] = sumOf(tree, node, guilds);
                }
                if (node > 0) {
                    int parent = tree.parents[node];
                    boolean friend = (guilds >> owners[tree.depths[parent]] & 1) != 0;
                    results[parent] = better(results[parent], results[node], friend);
                }
            }
            return results[0];
        }

        private static int sumOf(Tree tree, int charter, int guilds) {
            int sum = 0;
            for (int guild = 0; guild < GUILDS; guild++) {
                if ((guilds >> guild & 1) != 0) {
                    sum += tree.meanings[charter * GUILDS + guild];
                }
            }
            return sum;
        }

        private static int better(int one, int other, boolean most) {
            if (one == GAP) {
                return other;
            }
            return most ? Math.max(one, other) : Math.min(one, other);
        }
    }

    /** SEEN ones, by their numbers, and the TIME. */
    private static final class Sightings {
        int count;
        int time;
        private final int[] places = new int[MOST_SEEN];
        private final int[] words = new int[MOST_SEEN];
        private final boolean[] stoods = new boolean[MOST_SEEN];
        private final int[] toldAt = new int[MOST_SEEN];
        private final int[] untoldAt = new int[MOST_SEEN];

        int tell(int place, int word, boolean stood) {
            if (count >= MOST_SEEN) {
                return NONE;
            }
            places[count] = place;
            words[count] = word;
            stoods[count] = stood;
            toldAt[count] = time;
            untoldAt[count] = NONE;
            count++;
            return count - 1;
        }

        boolean takeBack(int number) {
            if (number < 0 || number >= count || untoldAt[number] != NONE) {
                return false;
            }
            untoldAt[number] = time;
            return true;
        }

        boolean agree(Tree tree, int charter, int k) {
            for (int i = 0; i < count; i++) {
                boolean untold = untoldAt[i] != NONE && untoldAt[i] <= k;
                boolean counts = toldAt[i] <= k && !untold;
                if (counts && (tree.wordAt(charter, places[i]) == words[i]) != stoods[i]) {
                    return false;
                }
            }
            return true;
        }
    }
}
