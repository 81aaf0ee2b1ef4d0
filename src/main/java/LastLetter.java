import java.util.Arrays;

/**
 * A parish where whatever is said must begin as the last thing said ended.
 * The document's terms stand in capitals in the comments.
 */
public final class LastLetter {
    public static final int NONE = -1;

    private static final int SPENT = -2;
    private static final int NO_SURPLUS = -1000;
    private static final int NO_SCORE = -10000;
    private static final int SPENT_SCORE = -20000;

    private static final int MAX_BYTES = 1600;
    private static final int FED_BYTES = 20;
    private static final int MAX_WORDS = 24;
    private static final int MAX_SEARCHED = 14;
    private static final int MAX_NAME = 8;
    private static final int MAX_DIGITS = 4;
    private static final int MAX_WORTH = 99;
    private static final int MAX_TIMES = 9;
    private static final int MAX_ALIKES = 10;
    private static final int MAX_ERRANDS = 6;
    private static final int LETTERS = 26;

    private static final int LAW_ONE = 1;
    private static final int LAW_TWO = 2;
    private static final int LAW_OTHER = 3;

    private static final int MAX_TALK = 100;
    private static final int MOST_BEHIND = 0;
    private static final int FEWEST_BEHIND = 1;
    private static final int MOST_WORTH = 2;
    private static final int BY_DRAW = 3;
    private static final int LAST_WAY = 4;

    private static final int BOXES = 3;
    private static final int MAX_SOUNDS = 30;
    private static final int MAX_PLACES = 12;
    private static final int MAX_LATER = 1000;
    private static final int MAX_TIME = 100000;
    private static final long MAX_FITS = 1000000000000L;

    private static final int SEARCH_STATES = MAX_WORDS << MAX_ERRANDS;
    /** TELLING stands at each WORD at most once for each number of ERRANDS done: 24 * 6 + 1. */
    private static final int MAX_ROW = 160;

    private final Tape tape = new Tape();
    private final Reader reader = new Reader(tape);
    private final Talk present = new Talk();
    private final Talk[] boxes = new Talk[BOXES];
    private final Row row = new Row();
    private final Letters letters = new Letters();
    private final Orders orders = new Orders();
    private final Search search = new Search();
    private final Games games = new Games();
    private final Wall wall = new Wall();
    private Tongue current = new Tongue();
    /** A text is read into this one, so that all stays if it has a FAULT. */
    private Tongue spare = new Tongue();

    public LastLetter() {
        for (int box = 0; box < BOXES; box++) {
            boxes[box] = new Talk();
        }
    }

    public int feed(int a, int b, int c, int d, int e) {
        if (tape.size + FED_BYTES > MAX_BYTES) {
            return NONE;
        }
        tape.put(a);
        tape.put(b);
        tape.put(c);
        tape.put(d);
        tape.put(e);
        return tape.size;
    }

    public int end(int n) {
        if (n < 0 || n > tape.size) {
            return NONE;
        }
        tape.size = n;
        return n;
    }

    public int tongue() {
        if (!reader.reads(spare)) {
            return NONE;
        }
        Tongue before = current;
        current = spare;
        spare = before;
        current.link();
        tape.size = 0;
        present.forget();
        for (int box = 0; box < BOXES; box++) {
            boxes[box].kept = false;
        }
        row.size = 0;
        orders.forget();
        games.forget();
        wall.sounds = 0;
        return current.words;
    }

    public int fault(int what) {
        switch (what) {
            case 0:
                return reader.fault;
            case 1:
                return reader.place;
            default:
                return NONE;
        }
    }

    public int follow(int word) {
        return current.has(word) ? current.followers[word] : NONE;
    }

    public int may() {
        return present.open(current);
    }

    public int say(int word) {
        if (!current.has(word) || !isIn(present.open(current), word)) {
            return NONE;
        }
        present.speak(current, word);
        return current.worth[word];
    }

    public int silence() {
        int spoken = present.spoken;
        present.begin();
        return spoken;
    }

    public int talk(int words, int way) {
        if (words < 0 || words > MAX_TALK || way < 0 || way > LAST_WAY) {
            return NONE;
        }
        int spoken = 0;
        for (int i = 0; i < words; i++) {
            int chosen = present.choose(current, way);
            if (!current.has(chosen)) {
                break;
            }
            present.speak(current, chosen);
            spoken++;
        }
        return spoken;
    }

    public int word(int word, int what) {
        if (!current.has(word)) {
            return NONE;
        }
        switch (what) {
            case 0:
                return present.said[word];
            case 1:
                return present.left(current, word);
            default:
                return NONE;
        }
    }

    public int all(boolean round) {
        row.size = 0;
        if (current.isTooBig()) {
            return SPENT;
        }
        boolean found = round ? orders.layRound(current, row) : orders.layWhole(current, row);
        return found ? 1 : 0;
    }

    public int longest() {
        row.size = 0;
        if (current.isTooBig()) {
            return SPENT;
        }
        return orders.layMost(current, row, false);
    }

    public int worthy() {
        row.size = 0;
        if (current.isTooBig()) {
            return SPENT;
        }
        return orders.layMost(current, row, true);
    }

    public int parted() {
        row.size = 0;
        if (current.isTooBig()) {
            return SPENT;
        }
        return orders.layParts(current, row);
    }

    public int missed(int word) {
        row.size = 0;
        if (!current.has(word)) {
            return NONE;
        }
        if (current.isTooBig()) {
            return SPENT;
        }
        return orders.lossWithout(current, word);
    }

    public int lies(int i) {
        return i >= 0 && i < row.size ? row.items[i] : NONE;
    }

    public int surplus(int letter) {
        if (letter < 0 || letter >= LETTERS) {
            return NO_SURPLUS;
        }
        return letters.balance(current, current.sound[letter]);
    }

    public int mended() {
        return letters.lacking(current);
    }

    public int join(int a, int b) {
        row.size = 0;
        if (!current.has(a) || !current.has(b)) {
            return NONE;
        }
        return search.layJoin(current, row, a, b);
    }

    public int telling() {
        row.size = 0;
        return current.errands == 0 ? 0 : search.layTelling(current, row);
    }

    public int game(int word) {
        if (!current.has(word)) {
            return NONE;
        }
        if (current.isTooBig()) {
            return SPENT;
        }
        return games.isWon(current, word) ? 1 : 0;
    }

    public int wins(int word) {
        if (!current.has(word)) {
            return NONE;
        }
        if (current.isTooBig()) {
            return SPENT;
        }
        return games.firstWinning(current, word);
    }

    public int deep(int word) {
        if (!current.has(word)) {
            return NONE;
        }
        if (current.isTooBig()) {
            return SPENT;
        }
        return games.lengthBehind(current, word);
    }

    public int score(int word) {
        if (!current.has(word)) {
            return NO_SCORE;
        }
        if (current.isTooBig()) {
            return SPENT_SCORE;
        }
        return games.gainBehind(current, word);
    }

    public int done() {
        return present.doneErrands;
    }

    public int again(int word) {
        return current.has(word) ? games.endless(current, word) : NONE;
    }

    public int dead() {
        int bits = 0;
        for (int word = 0; word < current.words; word++) {
            if (current.followers[word] == 0) {
                bits |= 1 << word;
            }
        }
        return bits;
    }

    public int hear(int place, int what, int value) {
        if (place < 0 || place >= MAX_PLACES || what < 0 || what > Wall.LAST_LETTER) {
            return NONE;
        }
        int values = what == Wall.WHOLE_WORD ? current.words : LETTERS;
        if (value < 0 || value >= values || wall.sounds >= MAX_SOUNDS) {
            return NONE;
        }
        return wall.add(place, what, value);
    }

    public boolean untell(int sound) {
        return wall.takeBack(sound);
    }

    public int later(int by) {
        if (by < 0 || by > MAX_LATER || wall.time + by > MAX_TIME) {
            return NONE;
        }
        wall.time += by;
        return wall.time;
    }

    public long fits(int n, int k) {
        if (n < 1 || n > MAX_PLACES) {
            return NONE;
        }
        return wall.countRows(current, n, k);
    }

    public int can(int n, int place, int k) {
        if (n < 1 || n > MAX_PLACES || place < 0 || place >= n) {
            return NONE;
        }
        return wall.standAt(current, n, place, k);
    }

    public int seed(int w) {
        int before = present.w;
        present.w = w;
        return before;
    }

    public int image(int box) {
        if (box < 0 || box >= BOXES) {
            return NONE;
        }
        boxes[box].copy(present);
        boxes[box].kept = true;
        return present.spoken;
    }

    public int back(int box) {
        if (box < 0 || box >= BOXES || !boxes[box].kept) {
            return NONE;
        }
        present.copy(boxes[box]);
        return present.spoken;
    }

    public int about(int what) {
        switch (what) {
            case 0:
                return current.words;
            case 1:
                return current.errands;
            case 2:
                return present.spoken;
            case 3:
                return present.latest;
            case 4:
                return wall.sounds;
            case 5:
                return wall.time;
            case 6:
                return tape.size;
            case 7:
                return present.w;
            case 8:
                return row.size;
            case 9:
                return present.earned;
            default:
                return NONE;
        }
    }

    private static boolean isIn(int bits, int word) {
        return (bits >>> word & 1) != 0;
    }

    /** The place of the lowest bit, NONE without bits. */
    private static int lowest(int bits) {
        return bits == 0 ? NONE : Integer.numberOfTrailingZeros(bits);
    }

    /** The bytes that were fed and are not yet told as a TONGUE. */
    private static final class Tape {
        private final byte[] bytes = new byte[MAX_BYTES];
        private int size;

        void put(int number) {
            for (int shift = 24; shift >= 0 && size < MAX_BYTES; shift -= 8) {
                bytes[size] = (byte) (number >>> shift);
                size++;
            }
        }

        /** The byte at a place, NONE behind the end. */
        int at(int place) {
            return place >= 0 && place < size ? bytes[place] & 255 : NONE;
        }
    }

    /** Reads the TAPE from left to right, so the FAULT met first is the first by its place. */
    private static final class Reader {
        private static final int NO_TOKEN = 0;
        private static final int TEXT_END = 1;
        private static final int LETTERS_TOKEN = 2;
        private static final int NUMBER_TOKEN = 3;
        private static final int STOP_TOKEN = 4;

        private static final int FAULT_TOKEN = 1;
        private static final int FAULT_ORDER = 2;
        private static final int FAULT_TWICE = 3;
        private static final int FAULT_NUMBER = 4;
        private static final int FAULT_NAME = 5;

        private final Tape tape;
        private int behind;
        private int kind;
        private int start;
        private int fault;
        private int place = NONE;

        Reader(Tape tape) {
            this.tape = tape;
        }

        boolean reads(Tongue into) {
            into.clear();
            fault = 0;
            place = NONE;
            behind = 0;
            step();
            for (int lines = 0; lines < MAX_BYTES && kind != TEXT_END && fault == 0; lines++) {
                readLine(into);
            }
            return fault == 0;
        }

        private void readLine(Tongue into) {
            if (isWritten("word") && into.words < MAX_WORDS) {
                readWord(into);
            } else if (isWritten("law") && into.law == NONE) {
                readLaw(into);
            } else if (isWritten("alike") && into.alikes < MAX_ALIKES) {
                readAlike(into);
            } else if (isWritten("errand") && into.errands < MAX_ERRANDS) {
                readErrand(into);
            } else {
                refuse(FAULT_ORDER);
            }
            if (kind != STOP_TOKEN) {
                refuse(FAULT_ORDER);
            }
            step();
        }

        private void readWord(Tongue into) {
            step();
            long name = name();
            if (into.find(name) != NONE) {
                refuse(FAULT_TWICE);
            }
            int from = start;
            int to = behind;
            step();
            if (!isWritten("worth")) {
                refuse(FAULT_ORDER);
            }
            step();
            int worth = number(0, MAX_WORTH);
            step();
            int times = 1;
            if (isWritten("times")) {
                step();
                times = number(1, MAX_TIMES);
                step();
            }
            if (fault == 0) {
                into.addWord(name, worth, times);
                into.spell(tape, from, to);
            }
        }

        private void readLaw(Tongue into) {
            step();
            if (isWritten("one")) {
                into.law = LAW_ONE;
            } else if (isWritten("two")) {
                into.law = LAW_TWO;
            } else if (isWritten("other")) {
                into.law = LAW_OTHER;
            } else {
                refuse(FAULT_ORDER);
            }
            step();
        }

        private void readAlike(Tongue into) {
            step();
            int one = letter();
            step();
            int other = letter();
            if (one == other) {
                refuse(FAULT_TWICE);
            }
            step();
            if (fault == 0) {
                into.addAlike(one, other);
            }
        }

        private void readErrand(Tongue into) {
            step();
            int word = into.find(name());
            if (word == NONE) {
                refuse(FAULT_NAME);
            } else if (into.errandOf[word] != NONE) {
                refuse(FAULT_TWICE);
            }
            step();
            int after = NONE;
            if (isWritten("after")) {
                step();
                after = into.errandNamed(name());
                if (after == NONE) {
                    refuse(FAULT_NAME);
                }
                step();
            }
            if (fault == 0) {
                into.addErrand(word, after);
            }
        }

        /** Only the first FAULT counts; what follows it is read no more. */
        private void refuse(int number) {
            if (fault == 0) {
                fault = number;
                place = start;
            }
        }

        private void step() {
            if (fault != 0) {
                return;
            }
            start = behind;
            while (start < tape.size && isBlank(tape.at(start))) {
                start++;
            }
            behind = start;
            int sign = tape.at(start);
            if (sign == NONE) {
                kind = TEXT_END;
            } else if (isLetter(sign)) {
                stepLetters();
            } else if (isDigit(sign)) {
                stepDigits();
            } else if (sign == ';') {
                kind = STOP_TOKEN;
                behind++;
            } else {
                kind = NO_TOKEN;
                refuse(FAULT_TOKEN);
            }
        }

        private void stepLetters() {
            while (behind < tape.size && isLetter(tape.at(behind))) {
                behind++;
            }
            kind = LETTERS_TOKEN;
            if (behind - start > MAX_NAME) {
                kind = NO_TOKEN;
                refuse(FAULT_TOKEN);
            }
        }

        private void stepDigits() {
            while (behind < tape.size && isDigit(tape.at(behind))) {
                behind++;
            }
            kind = NUMBER_TOKEN;
            if (behind - start > MAX_DIGITS || isLetter(tape.at(behind))) {
                kind = NO_TOKEN;
                refuse(FAULT_TOKEN);
            }
        }

        private boolean isWritten(String text) {
            if (kind != LETTERS_TOKEN || behind - start != text.length()) {
                return false;
            }
            for (int i = 0; i < text.length(); i++) {
                if (tape.at(start + i) != text.charAt(i)) {
                    return false;
                }
            }
            return true;
        }

        /** A NAME as one number, five bits a letter, so that like NAMES are like numbers. */
        private long name() {
            if (kind != LETTERS_TOKEN) {
                refuse(FAULT_ORDER);
                return 0;
            }
            long packed = 0;
            for (int i = start; i < behind; i++) {
                packed = packed << 5 | tape.at(i) - 'a' + 1;
            }
            return packed;
        }

        private int letter() {
            if (kind != LETTERS_TOKEN || behind - start != 1) {
                refuse(FAULT_ORDER);
                return NONE;
            }
            return tape.at(start) - 'a';
        }

        private int number(int least, int most) {
            if (kind != NUMBER_TOKEN) {
                refuse(FAULT_ORDER);
                return least;
            }
            int value = 0;
            for (int i = start; i < behind; i++) {
                value = value * 10 + tape.at(i) - '0';
            }
            if (value < least || value > most) {
                refuse(FAULT_NUMBER);
            }
            return value;
        }

        private static boolean isBlank(int sign) {
            return sign == 32 || sign == 10;
        }

        private static boolean isLetter(int sign) {
            return sign >= 'a' && sign <= 'z';
        }

        private static boolean isDigit(int sign) {
            return sign >= '0' && sign <= '9';
        }
    }

    /** WORDS, law, SOUND and ERRANDS as told. */
    private static final class Tongue {
        private final long[] name = new long[MAX_WORDS];
        private final int[] worth = new int[MAX_WORDS];
        private final int[] times = new int[MAX_WORDS];
        private final int[] first = new int[MAX_WORDS];
        private final int[] second = new int[MAX_WORDS];
        private final int[] beforeLast = new int[MAX_WORDS];
        private final int[] last = new int[MAX_WORDS];
        private final int[] errandOf = new int[MAX_WORDS];
        private final int[] errandAfter = new int[MAX_ERRANDS];
        /** The least letter that is alike to each one. */
        private final int[] sound = new int[LETTERS];
        private final int[] followers = new int[MAX_WORDS];
        private final int[] leaders = new int[MAX_WORDS];
        private int words;
        private int errands;
        private int alikes;
        private int law;

        Tongue() {
            clear();
        }

        private void clear() {
            words = 0;
            errands = 0;
            alikes = 0;
            law = NONE;
            Arrays.fill(errandOf, NONE);
            for (int letter = 0; letter < LETTERS; letter++) {
                sound[letter] = letter;
            }
        }

        boolean has(int number) {
            return number >= 0 && number < words;
        }

        boolean isTooBig() {
            return words > MAX_SEARCHED;
        }

        int everyWord() {
            return (1 << words) - 1;
        }

        int find(long wanted) {
            for (int i = 0; i < words; i++) {
                if (name[i] == wanted) {
                    return i;
                }
            }
            return NONE;
        }

        int errandNamed(long wanted) {
            int found = find(wanted);
            return found == NONE ? NONE : errandOf[found];
        }

        void addWord(long called, int worthTold, int timesTold) {
            if (words < MAX_WORDS) {
                name[words] = called;
                worth[words] = worthTold;
                times[words] = timesTold;
                words++;
            }
        }

        /** The letters of the WORD told last; one alone has no second and none ahead of its last. */
        void spell(Tape tape, int from, int to) {
            int newest = words - 1;
            if (newest >= 0 && from < to) {
                boolean isLong = to - from > 1;
                first[newest] = tape.at(from) - 'a';
                last[newest] = tape.at(to - 1) - 'a';
                second[newest] = isLong ? tape.at(from + 1) - 'a' : NONE;
                beforeLast[newest] = isLong ? tape.at(to - 2) - 'a' : NONE;
            }
        }

        void addAlike(int one, int other) {
            int kept = Math.min(sound[one], sound[other]);
            int lost = Math.max(sound[one], sound[other]);
            for (int letter = 0; letter < LETTERS; letter++) {
                if (sound[letter] == lost) {
                    sound[letter] = kept;
                }
            }
            alikes++;
        }

        void addErrand(int told, int after) {
            if (errands < MAX_ERRANDS && has(told)) {
                errandAfter[errands] = after;
                errandOf[told] = errands;
                errands++;
            }
        }

        /** Once the whole text is read: alike lines may stand behind the WORDS they bear on. */
        void link() {
            Arrays.fill(followers, 0);
            Arrays.fill(leaders, 0);
            for (int ahead = 0; ahead < words; ahead++) {
                for (int next = 0; next < words; next++) {
                    if (allows(ahead, next)) {
                        followers[ahead] |= 1 << next;
                        leaders[next] |= 1 << ahead;
                    }
                }
            }
        }

        private boolean allows(int ahead, int next) {
            boolean byOne = areAlike(last[ahead], first[next]);
            switch (law) {
                case LAW_TWO:
                    return areAlike(beforeLast[ahead], first[next]) && areAlike(last[ahead], second[next]);
                case LAW_OTHER:
                    return !byOne;
                default:
                    return byOne;
            }
        }

        private boolean areAlike(int one, int other) {
            return one != NONE && other != NONE && sound[one] == sound[other];
        }

        /** The ERRANDS that are DONE once a WORD is said behind these. */
        int doneBehind(int done, int spoken) {
            int errand = errandOf[spoken];
            if (errand == NONE) {
                return done;
            }
            int after = errandAfter[errand];
            return after == NONE || isIn(done, after) ? done | 1 << errand : done;
        }
    }

    /** The TALK that goes on, or one that is kept in a BOX. */
    private static final class Talk {
        private final int[] said = new int[MAX_WORDS];
        private int latest = NONE;
        private int spoken;
        private int earned;
        private int doneErrands;
        private int w = 1;
        private boolean kept;

        /** A new TONGUE: all but w is gone. */
        void forget() {
            Arrays.fill(said, 0);
            earned = 0;
            doneErrands = 0;
            begin();
        }

        void begin() {
            latest = NONE;
            spoken = 0;
        }

        void copy(Talk other) {
            System.arraycopy(other.said, 0, said, 0, MAX_WORDS);
            latest = other.latest;
            spoken = other.spoken;
            earned = other.earned;
            doneErrands = other.doneErrands;
            w = other.w;
        }

        int left(Tongue tongue, int number) {
            return tongue.times[number] - said[number];
        }

        int open(Tongue tongue) {
            int allowed = tongue.has(latest) ? tongue.followers[latest] : tongue.everyWord();
            int bits = 0;
            for (int i = 0; i < tongue.words; i++) {
                if (isIn(allowed, i) && left(tongue, i) > 0) {
                    bits |= 1 << i;
                }
            }
            return bits;
        }

        void speak(Tongue tongue, int number) {
            said[number]++;
            latest = number;
            spoken++;
            earned += tongue.worth[number];
            doneErrands = tongue.doneBehind(doneErrands, number);
        }

        /** The WORD that a WAY chooses, NONE if none may be said. */
        int choose(Tongue tongue, int way) {
            int bits = open(tongue);
            if (way == BY_DRAW) {
                return drawn(bits);
            }
            int best = NONE;
            int bestRank = 0;
            for (int i = 0; i < tongue.words; i++) {
                if (isIn(bits, i)) {
                    int rank = rank(tongue, way, i);
                    if (best == NONE || rank > bestRank) {
                        best = i;
                        bestRank = rank;
                    }
                }
            }
            return best;
        }

        private int rank(Tongue tongue, int way, int number) {
            switch (way) {
                case MOST_BEHIND:
                    return openBehind(tongue, number);
                case FEWEST_BEHIND:
                    return -openBehind(tongue, number);
                case MOST_WORTH:
                    return tongue.worth[number];
                default:
                    return left(tongue, number);
            }
        }

        /** It is said once more then, so one less of its own number is left behind it. */
        private int openBehind(Tongue tongue, int number) {
            int count = 0;
            for (int i = 0; i < tongue.words; i++) {
                int used = i == number ? 1 : 0;
                if (isIn(tongue.followers[number], i) && left(tongue, i) > used) {
                    count++;
                }
            }
            return count;
        }

        /** Nothing is drawn, and w stays, where there is nothing to draw of. */
        private int drawn(int bits) {
            int many = Integer.bitCount(bits);
            if (many == 0) {
                return NONE;
            }
            w = w * 1103515245 + 12345;
            int ahead = (w >>> 16) % many;
            int rest = bits;
            for (int i = 0; i < ahead; i++) {
                rest &= rest - 1;
            }
            return lowest(rest);
        }
    }

    /** The ROW that lies there. */
    private static final class Row {
        private final int[] items = new int[MAX_ROW];
        private int size;

        void add(int number) {
            if (size < MAX_ROW) {
                items[size] = number;
                size++;
            }
        }

        void turn() {
            for (int i = 0, j = size - 1; i < j; i++, j--) {
                int kept = items[i];
                items[i] = items[j];
                items[j] = kept;
            }
        }
    }

    /** By law one WORDS are ways from letter to letter, and ALL is a walk that takes each way once. */
    private static final class Letters {
        private final int[] group = new int[LETTERS];

        int balance(Tongue tongue, int sound) {
            int more = 0;
            for (int i = 0; i < tongue.words; i++) {
                if (tongue.sound[tongue.first[i]] == sound) {
                    more++;
                }
                if (tongue.sound[tongue.last[i]] == sound) {
                    more--;
                }
            }
            return more;
        }

        /** Letters that hang together need as many walks as WORDS begin in surplus, and one at least; a WORD more makes one walk of two. */
        int lacking(Tongue tongue) {
            gather(tongue);
            int walks = 0;
            for (int leader = 0; leader < LETTERS; leader++) {
                if (hasWords(tongue, leader)) {
                    walks += Math.max(1, surplusOf(tongue, leader));
                }
            }
            return Math.max(0, walks - 1);
        }

        private void gather(Tongue tongue) {
            System.arraycopy(tongue.sound, 0, group, 0, LETTERS);
            for (int i = 0; i < tongue.words; i++) {
                int kept = group[tongue.first[i]];
                int lost = group[tongue.last[i]];
                for (int letter = 0; letter < LETTERS; letter++) {
                    if (group[letter] == lost) {
                        group[letter] = kept;
                    }
                }
            }
        }

        private boolean hasWords(Tongue tongue, int leader) {
            for (int i = 0; i < tongue.words; i++) {
                if (group[tongue.first[i]] == leader) {
                    return true;
                }
            }
            return false;
        }

        private int surplusOf(Tongue tongue, int leader) {
            int sum = 0;
            for (int letter = 0; letter < LETTERS; letter++) {
                if (tongue.sound[letter] == letter && group[letter] == leader) {
                    sum += Math.max(0, balance(tongue, letter));
                }
            }
            return sum;
        }
    }

    /** ROWS in which none stands twice, by what is known of each set of WORDS; sets are bits. */
    private static final class Orders {
        /** How often a saying of the whole set must begin anew at least. */
        private byte[] breaks = new byte[1];
        /** The WORDS that such a saying can begin with. */
        private int[] starts = new int[1];
        private int[] worths = new int[1];
        /** The WORDS with which a ROW of the whole set can begin behind whose last WORD 0 may FOLLOW. */
        private int[] closing = new int[1];
        private boolean isKnown;
        private boolean isClosingKnown;

        void forget() {
            isKnown = false;
            isClosingKnown = false;
        }

        boolean layWhole(Tongue tongue, Row row) {
            learn(tongue);
            if (breaks[tongue.everyWord()] != 0) {
                return false;
            }
            layParts(tongue, row);
            return true;
        }

        /** How many ROWS; with fewest breaks a saying of all WORDS breaks just where none FOLLOWS. */
        int layParts(Tongue tongue, Row row) {
            learn(tongue);
            int rest = tongue.everyWord();
            int open = rest;
            int budget = breaks[rest];
            int parts = rest == 0 ? 0 : budget + 1;
            for (int i = 0; i < tongue.words; i++) {
                int next = cheapest(tongue, rest, open, budget);
                if (next == NONE) {
                    break;
                }
                if (!isIn(open, next)) {
                    budget--;
                }
                row.add(next);
                rest ^= 1 << next;
                open = tongue.followers[next];
            }
            return parts;
        }

        private int cheapest(Tongue tongue, int rest, int open, int budget) {
            for (int i = 0; i < tongue.words; i++) {
                if (isIn(rest, i)) {
                    int breakAhead = isIn(open, i) ? 0 : 1;
                    if (breakAhead + breaksBehind(tongue, i, rest ^ 1 << i) == budget) {
                        return i;
                    }
                }
            }
            return NONE;
        }

        private int breaksBehind(Tongue tongue, int number, int rest) {
            if (rest == 0) {
                return 0;
            }
            return breaks[rest] + ((tongue.followers[number] & starts[rest]) != 0 ? 0 : 1);
        }

        /** LONGEST, or by worth WORTHY: how much it is. */
        int layMost(Tongue tongue, Row row, boolean byWorth) {
            learn(tongue);
            int rest = tongue.everyWord();
            int open = rest;
            int most = mostWithin(rest, byWorth);
            int wanted = most;
            for (int i = 0; i < tongue.words; i++) {
                int next = lowest(beginnings(rest, wanted, byWorth) & open);
                if (next == NONE) {
                    break;
                }
                row.add(next);
                rest ^= 1 << next;
                open = tongue.followers[next];
                wanted -= amount(1 << next, byWorth);
                if (wanted == 0) {
                    break;
                }
            }
            return most;
        }

        int lossWithout(Tongue tongue, int number) {
            learn(tongue);
            int every = tongue.everyWord();
            return mostWithin(every, false) - mostWithin(every ^ 1 << number, false);
        }

        private int mostWithin(int within, boolean byWorth) {
            int most = 0;
            for (int set = within; set > 0; set = set - 1 & within) {
                if (breaks[set] == 0) {
                    most = Math.max(most, amount(set, byWorth));
                }
            }
            return most;
        }

        /** With what ROWS of just so much can begin that stand in a set. */
        private int beginnings(int within, int wanted, boolean byWorth) {
            int bits = 0;
            for (int set = within; set > 0; set = set - 1 & within) {
                if (breaks[set] == 0 && amount(set, byWorth) == wanted) {
                    bits |= starts[set];
                }
            }
            return bits;
        }

        private int amount(int set, boolean byWorth) {
            return byWorth ? worths[set] : Integer.bitCount(set);
        }

        private void learn(Tongue tongue) {
            int sets = 1 << tongue.words;
            if (isKnown) {
                return;
            }
            if (breaks.length < sets) {
                breaks = new byte[sets];
                starts = new int[sets];
                worths = new int[sets];
            }
            breaks[0] = 0;
            worths[0] = 0;
            for (int set = 1; set < sets; set++) {
                learnSet(tongue, set);
            }
            isKnown = true;
        }

        private void learnSet(Tongue tongue, int set) {
            int least = MAX_WORDS;
            int bits = 0;
            for (int i = 0; i < tongue.words; i++) {
                if (isIn(set, i)) {
                    int broken = breaksBehind(tongue, i, set ^ 1 << i);
                    if (broken < least) {
                        least = broken;
                        bits = 0;
                    }
                    if (broken == least) {
                        bits |= 1 << i;
                    }
                }
            }
            breaks[set] = (byte) least;
            starts[set] = bits;
            worths[set] = worths[set & set - 1] + tongue.worth[lowest(set)];
        }

        /** A ROUND can begin with any of its WORDS, so the first one begins with WORD 0. */
        boolean layRound(Tongue tongue, Row row) {
            if (tongue.words == 0) {
                return true;
            }
            learnClosing(tongue);
            int rest = tongue.everyWord() ^ 1;
            if (onward(tongue, 0, rest) == 0) {
                return false;
            }
            int here = 0;
            row.add(here);
            for (int i = 1; i < tongue.words; i++) {
                int next = lowest(onward(tongue, here, rest));
                if (next == NONE) {
                    break;
                }
                row.add(next);
                rest ^= 1 << next;
                here = next;
            }
            return true;
        }

        /** What can be said next so that the rest is said and WORD 0 may FOLLOW. */
        private int onward(Tongue tongue, int number, int rest) {
            return tongue.followers[number] & (rest == 0 ? 1 : closing[rest]);
        }

        private void learnClosing(Tongue tongue) {
            int sets = 1 << tongue.words;
            if (isClosingKnown) {
                return;
            }
            if (closing.length < sets) {
                closing = new int[sets];
            }
            for (int set = 2; set < sets; set += 2) {
                int bits = 0;
                for (int i = 1; i < tongue.words; i++) {
                    if (isIn(set, i) && onward(tongue, i, set ^ 1 << i) != 0) {
                        bits |= 1 << i;
                    }
                }
                closing[set] = bits;
            }
            isClosingKnown = true;
        }
    }

    /**
     * Fewest WORDS by states (the latest WORD, the ERRANDS done). States are taken in the order of
     * their first ROWS, so the first ROW that comes to a state is the first of like ones.
     */
    private static final class Search {
        private static final int UNSEEN = -2;

        private final int[] ahead = new int[SEARCH_STATES];
        private final int[] queue = new int[SEARCH_STATES];
        private int queued;

        int layJoin(Tongue tongue, Row row, int from, int to) {
            begin();
            enter(tongue, 1 << from, NONE, false);
            for (int i = 0; i < queued && i < SEARCH_STATES; i++) {
                if (queue[i] == to) {
                    return lay(row, to);
                }
                enter(tongue, tongue.followers[queue[i]], queue[i], false);
            }
            return NONE;
        }

        int layTelling(Tongue tongue, Row row) {
            int everyErrand = (1 << tongue.errands) - 1;
            begin();
            enter(tongue, tongue.everyWord(), NONE, true);
            for (int i = 0; i < queued && i < SEARCH_STATES; i++) {
                if (queue[i] / MAX_WORDS == everyErrand) {
                    return lay(row, queue[i]);
                }
                enter(tongue, tongue.followers[queue[i] % MAX_WORDS], queue[i], true);
            }
            return NONE;
        }

        private void begin() {
            Arrays.fill(ahead, UNSEEN);
            queued = 0;
        }

        private void enter(Tongue tongue, int bits, int from, boolean withErrands) {
            int before = from == NONE ? 0 : from / MAX_WORDS;
            for (int i = 0; i < tongue.words; i++) {
                if (isIn(bits, i)) {
                    int errands = withErrands ? tongue.doneBehind(before, i) : 0;
                    int state = errands * MAX_WORDS + i;
                    if (ahead[state] == UNSEEN && queued < SEARCH_STATES) {
                        ahead[state] = from;
                        queue[queued] = state;
                        queued++;
                    }
                }
            }
        }

        private int lay(Row row, int last) {
            int state = last;
            for (int i = 0; i < MAX_ROW && state >= 0; i++) {
                row.add(state % MAX_WORDS);
                state = ahead[state];
            }
            row.turn();
            return row.size;
        }
    }

    /** The games by turns; a place in them is the set of WORDS not yet said, and the latest one. */
    private static final class Games {
        private static final int DEPTH_BITS = 4;

        /** The latest WORDS behind which who is to say wins, for each set. */
        private int[] won = new int[1];
        /** How many WORDS are said still, four bits for each latest WORD, for each set. */
        private long[] depths = new long[1];
        /** By how much who is to say gets more, for each set and latest WORD. */
        private short[] gains = new short[1];
        private boolean isWonKnown;
        private boolean isDepthKnown;
        private boolean isGainKnown;

        void forget() {
            isWonKnown = false;
            isDepthKnown = false;
            isGainKnown = false;
        }

        boolean isWon(Tongue tongue, int number) {
            learnWon(tongue);
            return isIn(won[tongue.everyWord() ^ 1 << number], number);
        }

        int firstWinning(Tongue tongue, int number) {
            learnWon(tongue);
            int rest = tongue.everyWord() ^ 1 << number;
            int moves = tongue.followers[number] & rest;
            for (int i = 0; i < tongue.words; i++) {
                if (isIn(moves, i) && isLostBehind(rest, i)) {
                    return i;
                }
            }
            return NONE;
        }

        int lengthBehind(Tongue tongue, int number) {
            learnDepths(tongue);
            return depth(tongue.everyWord() ^ 1 << number, number);
        }

        int gainBehind(Tongue tongue, int number) {
            learnGains(tongue);
            return gains[(tongue.everyWord() ^ 1 << number) * tongue.words + number];
        }

        private boolean isLostBehind(int rest, int number) {
            return !isIn(won[rest ^ 1 << number], number);
        }

        private void learnWon(Tongue tongue) {
            int sets = 1 << tongue.words;
            if (isWonKnown) {
                return;
            }
            if (won.length < sets) {
                won = new int[sets];
            }
            for (int set = 0; set < sets; set++) {
                int bits = 0;
                for (int i = 0; i < tongue.words; i++) {
                    if (isIn(set, i) && isLostBehind(set, i)) {
                        bits |= tongue.leaders[i];
                    }
                }
                won[set] = bits;
            }
            isWonKnown = true;
        }

        private int depth(int set, int number) {
            return (int) (depths[set] >>> DEPTH_BITS * number) & 15;
        }

        private void learnDepths(Tongue tongue) {
            int sets = 1 << tongue.words;
            if (isDepthKnown) {
                return;
            }
            learnWon(tongue);
            if (depths.length < sets) {
                depths = new long[sets];
            }
            for (int set = 0; set < sets; set++) {
                long packed = 0;
                for (int i = 0; i < tongue.words; i++) {
                    if (!isIn(set, i)) {
                        int moves = tongue.followers[i] & set;
                        packed |= (long) bestDepth(set, moves, isIn(won[set], i)) << DEPTH_BITS * i;
                    }
                }
                depths[set] = packed;
            }
            isDepthKnown = true;
        }

        /** Who wins may only say what wins; who loses may say anything. */
        private int bestDepth(int set, int moves, boolean wins) {
            int best = 0;
            for (int i = 0; i < MAX_SEARCHED && moves >>> i != 0; i++) {
                if (isIn(moves, i) && (!wins || isLostBehind(set, i))) {
                    int length = 1 + depth(set ^ 1 << i, i);
                    if (best == 0 || (wins ? length < best : length > best)) {
                        best = length;
                    }
                }
            }
            return best;
        }

        private void learnGains(Tongue tongue) {
            int sets = 1 << tongue.words;
            if (isGainKnown) {
                return;
            }
            if (gains.length < sets * tongue.words) {
                gains = new short[sets * tongue.words];
            }
            for (int set = 0; set < sets; set++) {
                for (int i = 0; i < tongue.words; i++) {
                    if (!isIn(set, i)) {
                        gains[set * tongue.words + i] = (short) bestGain(tongue, set, tongue.followers[i] & set);
                    }
                }
            }
            isGainKnown = true;
        }

        private int bestGain(Tongue tongue, int set, int moves) {
            int best = 0;
            boolean isFirst = true;
            for (int i = 0; i < tongue.words && moves >>> i != 0; i++) {
                if (isIn(moves, i)) {
                    int gain = tongue.worth[i] - gains[(set ^ 1 << i) * tongue.words + i];
                    if (isFirst || gain > best) {
                        best = gain;
                        isFirst = false;
                    }
                }
            }
            return best;
        }

        /** Each turn but the last settles one WORD more at least; what no turn settles never ends. */
        int endless(Tongue tongue, int number) {
            int winning = 0;
            int losing = 0;
            for (int turn = 0; turn < tongue.words; turn++) {
                for (int i = 0; i < tongue.words; i++) {
                    if ((tongue.followers[i] & losing) != 0) {
                        winning |= 1 << i;
                    } else if ((tongue.followers[i] & ~winning) == 0) {
                        losing |= 1 << i;
                    }
                }
            }
            if (isIn(winning, number)) {
                return 1;
            }
            return isIn(losing, number) ? 0 : 2;
        }
    }

    /** What was heard through the wall, and the TIME. */
    private static final class Wall {
        private static final int WHOLE_WORD = 0;
        private static final int FIRST_LETTER = 1;
        private static final int LAST_LETTER = 2;

        private final int[] places = new int[MAX_SOUNDS];
        private final int[] kinds = new int[MAX_SOUNDS];
        private final int[] values = new int[MAX_SOUNDS];
        private final int[] toldAt = new int[MAX_SOUNDS];
        private final int[] untoldAt = new int[MAX_SOUNDS];
        private final int[] standing = new int[MAX_PLACES];
        private long[] rows = new long[MAX_WORDS];
        private long[] longer = new long[MAX_WORDS];
        private int sounds;
        private int time;

        int add(int place, int what, int value) {
            if (sounds >= MAX_SOUNDS) {
                return NONE;
            }
            int number = sounds;
            places[number] = place;
            kinds[number] = what;
            values[number] = value;
            toldAt[number] = time;
            untoldAt[number] = NONE;
            sounds++;
            return number;
        }

        boolean takeBack(int sound) {
            if (sound < 0 || sound >= sounds || untoldAt[sound] != NONE) {
                return false;
            }
            untoldAt[sound] = time;
            return true;
        }

        long countRows(Tongue tongue, int n, int k) {
            narrow(tongue, k);
            for (int i = 0; i < tongue.words; i++) {
                rows[i] = isIn(standing[0], i) ? 1 : 0;
            }
            for (int place = 1; place < n; place++) {
                for (int i = 0; i < tongue.words; i++) {
                    longer[i] = isIn(standing[place], i) ? rowsInto(tongue, i) : 0;
                }
                long[] kept = rows;
                rows = longer;
                longer = kept;
            }
            long sum = 0;
            for (int i = 0; i < tongue.words; i++) {
                sum += rows[i];
            }
            return Math.min(sum, MAX_FITS);
        }

        /** At most 24 to the 12th, which a long holds. */
        private long rowsInto(Tongue tongue, int number) {
            long sum = 0;
            for (int i = 0; i < tongue.words; i++) {
                if (isIn(tongue.leaders[number], i)) {
                    sum += rows[i];
                }
            }
            return sum;
        }

        int standAt(Tongue tongue, int n, int place, int k) {
            narrow(tongue, k);
            for (int i = 1; i < n; i++) {
                standing[i] &= gathered(tongue.followers, standing[i - 1], tongue.words);
            }
            for (int i = n - 2; i >= place; i--) {
                standing[i] &= gathered(tongue.leaders, standing[i + 1], tongue.words);
            }
            return standing[place];
        }

        private int gathered(int[] sets, int chosen, int many) {
            int bits = 0;
            for (int i = 0; i < many; i++) {
                if (isIn(chosen, i)) {
                    bits |= sets[i];
                }
            }
            return bits;
        }

        /** What can stand at each place by the SOUNDS alone that count as known at k. */
        private void narrow(Tongue tongue, int k) {
            Arrays.fill(standing, tongue.everyWord());
            for (int i = 0; i < sounds; i++) {
                boolean isUntold = untoldAt[i] != NONE && untoldAt[i] <= k;
                if (toldAt[i] <= k && !isUntold) {
                    standing[places[i]] &= wordsOf(tongue, kinds[i], values[i]);
                }
            }
        }

        private int wordsOf(Tongue tongue, int kind, int value) {
            if (kind == WHOLE_WORD) {
                return 1 << value;
            }
            int[] heard = kind == FIRST_LETTER ? tongue.first : tongue.last;
            int bits = 0;
            for (int i = 0; i < tongue.words; i++) {
                if (tongue.sound[heard[i]] == tongue.sound[value]) {
                    bits |= 1 << i;
                }
            }
            return bits;
        }
    }
}
