/** A file by weighted votes: the answers that ../shared/DOC.md promises, in the Java of ../shared/LANGUAGE.md. */
public final class VoteFiles {
    public static final int BAD = -1, STATE = -2, FULL = -3, FEW = -4, STALE = -5, NONE = -9;

    private static final int MOST_LETTERS = 120;
    private static final int MOST_COPIES = 6;
    private static final int MOST_VOTES = 5;
    private static final int MOST_TOTAL = MOST_COPIES * MOST_VOTES;
    private static final int GROUPS = 3;
    private static final int MOST_VALUE = 999;
    private static final int MOST_CONFIGURATIONS = 8;
    private static final int MOST_UNDONE = 10;
    private static final int MOST_SEEN = 6;
    private static final int IMAGES = 2;
    private static final int TENTHS = 10;
    private static final int TO_READ = 0;

    /** Every refusal is below 0. */
    private static final int NOT_REFUSED = 0;

    private final Letters text = new Letters();
    private final Telling telling = new Telling(text);
    private final Shape now = new Shape();
    private final Past past = new Past();
    private final Images images = new Images();
    private final Meeting meeting = new Meeting();
    private final Seen seen = new Seen();
    private final Chances chances = new Chances();
    private final Search search = new Search();
    private int valueRead = 0;

    public VoteFiles() {
        now.begin(telling);
    }

    // ---- what is told

    public int type(int letter) {
        if (!isWithin(letter, 0, 255)) {
            return BAD;
        }
        return text.append(letter) ? text.length : FULL;
    }

    public int clear() {
        int had = text.length;
        text.length = 0;
        return had;
    }

    public int file() {
        int fault = telling.faultOf();
        if (fault != NONE) {
            return -10 - fault;
        }
        now.begin(telling);
        past.size = 0;
        seen.size = 0;
        images.drop();
        text.length = 0;
        return telling.items;
    }

    // ---- what is done

    public int reads(int group) {
        int refusal = lookToRead(group);
        if (refusal != NOT_REFUSED) {
            return refusal;
        }
        valueRead = meeting.value;
        return meeting.latest;
    }

    public int writes(int group, int value) {
        if (!isGroup(group) || !isWithin(value, 0, MOST_VALUE)) {
            return BAD;
        }
        meeting.look(now, group);
        int refusal = meeting.refusal(meeting.write, false);
        if (refusal != NOT_REFUSED) {
            return refusal;
        }
        past.remember(now);
        now.renew(meeting.present, meeting.known, meeting.latest + 1, value);
        return meeting.latest + 1;
    }

    public int mends(int group) {
        int refusal = lookToRead(group);
        if (refusal != NOT_REFUSED) {
            return refusal;
        }
        past.remember(now);
        return now.renew(meeting.present, meeting.known, meeting.latest, meeting.value);
    }

    public int votes(int group, int copy, int votes, int witness, int read, int write) {
        if (!isGroup(group) || !isCopy(copy) || !isWithin(votes, 0, MOST_VOTES) || !isWithin(witness, 0, 1)
                || !isWithin(read, 1, MOST_TOTAL) || !isWithin(write, 1, MOST_TOTAL)) {
            return BAD;
        }
        if (now.configurations() >= MOST_CONFIGURATIONS) {
            return FULL;
        }
        meeting.look(now, group);
        if (meeting.present == 0) {
            return FEW;
        }
        int total = now.total(meeting.known) - now.votesOf(meeting.known, copy) + votes;
        if (!isLawful(total, read, write)) {
            return STATE;
        }
        int refusal = meeting.refusal(meeting.write, true);
        if (refusal != NOT_REFUSED) {
            return refusal;
        }
        past.remember(now);
        int number = now.addLike(meeting.known);
        now.setNeeds(number, read, write);
        now.setVoter(number, copy, votes, witness == 1);
        now.renew(meeting.present, number, meeting.latest, meeting.value);
        return number;
    }

    public int flips(int copy) {
        if (!isCopy(copy)) {
            return BAD;
        }
        past.remember(now);
        return now.turn(copy);
    }

    public int moves(int copy, int group) {
        if (!isCopy(copy) || !isGroup(group)) {
            return BAD;
        }
        int was = now.groupOf(copy);
        if (was == group) {
            return STATE;
        }
        past.remember(now);
        now.setGroup(copy, group);
        return was;
    }

    public int undo() {
        return past.restore(now) ? past.size : STATE;
    }

    // ---- how things are

    public int copy(int copy, int what) {
        if (!isCopy(copy)) {
            return BAD;
        }
        switch (what) {
            case 0: return now.isUp(copy) ? 1 : 0;
            case 1: return now.groupOf(copy);
            case 2: return now.versionOf(copy);
            case 3: return now.valueOf(copy);
            case 4: return now.configurationOf(copy);
            case 5: return now.votesOf(now.newest(), copy);
            case 6: return now.isWitness(now.newest(), copy) ? 1 : 0;
            default: return BAD;
        }
    }

    public int group(int group, int what) {
        if (!isGroup(group)) {
            return BAD;
        }
        meeting.look(now, group);
        switch (what) {
            case 0: return meeting.present;
            case 1: return meeting.known;
            case 2: return meeting.votes;
            case 3: return meeting.latest;
            case 4: return meeting.value != NONE ? 1 : 0;
            case 5: return meeting.can(meeting.read, true);
            case 6: return meeting.can(meeting.write, false);
            case 7: return now.configurations() < MOST_CONFIGURATIONS ? meeting.can(meeting.write, true) : 0;
            default: return BAD;
        }
    }

    public int asked() {
        return valueRead;
    }

    // ---- what is likely, what is best

    public int chance(int x, int way, int what) {
        if (!isWithin(x, 0, TENTHS) || !isWithin(way, 0, 1) || !isWithin(what, 0, 1)) {
            return BAD;
        }
        chances.begin();
        for (int copy = 0; copy < now.copies(); copy++) {
            chances.join(now.votesOf(now.newest(), copy), x);
        }
        chances.reduce(now.need(now.newest(), way), now.copies());
        return what == 0 ? chances.upper : chances.lower;
    }

    public int least(int way) {
        if (!isWithin(way, 0, 1)) {
            return BAD;
        }
        int need = now.need(now.newest(), way);
        int fewest = MOST_COPIES + 1;
        int least = 0;
        for (int set = 0; set < now.sets(); set++) {
            int members = Integer.bitCount(set);
            if (members < fewest && now.votesOfSet(now.newest(), set) >= need) {
                fewest = members;
                least = set;
            }
        }
        return least;
    }

    public int best(int x, int a, int what) {
        if (!isWithin(x, 0, TENTHS) || !isWithin(a, 0, TENTHS) || !isWithin(what, 0, 2)) {
            return BAD;
        }
        if (now.copies() == 0) {
            return NONE;
        }
        search.run(chances, now.copies(), x, a);
        if (what == 0) {
            return search.much;
        }
        return what == 1 ? search.votes : search.write;
    }

    // ---- which are down

    public int sees(int way, int is) {
        if (!isWithin(way, 0, 1) || !isWithin(is, 0, 1)) {
            return BAD;
        }
        return seen.append(way, is == 1) ? seen.size : FULL;
    }

    public int forget() {
        int had = seen.size;
        seen.size = 0;
        return had;
    }

    public int unseen(int what) {
        if (!isWithin(what, 0, 1)) {
            return BAD;
        }
        int fitting = 0;
        int least = NONE;
        for (int down = 0; down < now.sets(); down++) {
            if (seen.allows(now, down)) {
                fitting++;
                if (least == NONE) {
                    least = down;
                }
            }
        }
        return what == 0 ? fitting : least;
    }

    // ---- images

    public int keep(int image) {
        if (!isWithin(image, 0, IMAGES - 1)) {
            return BAD;
        }
        images.store(image, now);
        return now.copies();
    }

    public int back(int image) {
        if (!isWithin(image, 0, IMAGES - 1)) {
            return BAD;
        }
        if (!images.restore(image, now)) {
            return STATE;
        }
        past.size = 0;
        return now.copies();
    }

    public int count(int what) {
        switch (what) {
            case 0: return now.copies();
            case 1: return now.configurations();
            case 2: return now.readOf(now.newest());
            case 3: return now.writeOf(now.newest());
            case 4: return now.total(now.newest());
            case 5: return seen.size;
            case 6: return text.length;
            case 7: return past.size;
            default: return BAD;
        }
    }

    /** Looks at a GROUP: why it can't be READ in, or NOT_REFUSED. */
    private int lookToRead(int group) {
        if (!isGroup(group)) {
            return BAD;
        }
        meeting.look(now, group);
        return meeting.refusal(meeting.read, true);
    }

    private boolean isCopy(int copy) {
        return isWithin(copy, 0, now.copies() - 1);
    }

    private static boolean isGroup(int group) {
        return isWithin(group, 0, GROUPS - 1);
    }

    private static boolean isWithin(int number, int least, int most) {
        return number >= least && number <= most;
    }

    private static boolean isLawful(int total, int read, int write) {
        return read + write > total && 2 * write > total && read <= total && write <= total;
    }

    /** THE TEXT. */
    private static final class Letters {
        private final int[] letters = new int[MOST_LETTERS];
        int length = 0;

        boolean append(int letter) {
            if (length >= MOST_LETTERS) {
                return false;
            }
            letters[length] = letter;
            length++;
            return true;
        }

        /** The letter at a place, or NONE where there is no such place. */
        int at(int place) {
            return place >= 0 && place < length ? letters[place] : NONE;
        }
    }

    /** The TOKENS of THE TEXT, one at a time. */
    private static final class Tokens {
        static final int END = 0, COPY = 1, WITNESS = 2, READ = 3, WRITE = 4, NUMBER = 5, SEMICOLON = 6, OTHER = 7;
        private static final int MOST_NUMBER = 99;

        private final Letters text;
        int kind = END;
        int start = 0;
        int number = 0;
        private int behind = 0;

        Tokens(Letters text) {
            this.text = text;
        }

        void rewind() {
            behind = 0;
        }

        /** Goes to the next TOKEN; the text's end is one too, that starts at the text's length. */
        void advance() {
            start = behind;
            while (start < text.length && text.at(start) == ' ') {
                start++;
            }
            behind = start;
            if (start >= text.length) {
                kind = END;
            } else if (isSmall(text.at(start))) {
                takeWord();
            } else if (isDigit(text.at(start))) {
                takeNumber();
            } else {
                behind = start + 1;
                kind = text.at(start) == ';' ? SEMICOLON : OTHER;
            }
        }

        private void takeWord() {
            while (behind < text.length && isSmall(text.at(behind))) {
                behind++;
            }
            if (spells("copy")) {
                kind = COPY;
            } else if (spells("witness")) {
                kind = WITNESS;
            } else if (spells("read")) {
                kind = READ;
            } else if (spells("write")) {
                kind = WRITE;
            } else {
                kind = OTHER;
            }
        }

        private boolean spells(String word) {
            if (word.length() != behind - start) {
                return false;
            }
            for (int i = 0; i < word.length(); i++) {
                if (word.charAt(i) != text.at(start + i)) {
                    return false;
                }
            }
            return true;
        }

        private void takeNumber() {
            number = 0;
            while (behind < text.length && isDigit(text.at(behind))) {
                // Cut off above the limit, for 120 digits are more than an int holds.
                number = Math.min(MOST_NUMBER + 1, 10 * number + text.at(behind) - '0');
                behind++;
            }
            boolean zeroAhead = behind - start > 1 && text.at(start) == '0';
            kind = zeroAhead || number > MOST_NUMBER ? OTHER : NUMBER;
        }

        private static boolean isSmall(int letter) {
            return isWithin(letter, 'a', 'z');
        }

        private static boolean isDigit(int letter) {
            return isWithin(letter, '0', '9');
        }
    }

    /** What THE TEXT tells; a draft, so that a FAULT leaves all else as it was. */
    private static final class Telling {
        private static final int NOT_TOLD = 0;

        private final Tokens tokens;
        final int[] votes = new int[MOST_COPIES];
        int witnesses = 0;
        int copies = 0;
        int read = 1;
        int write = 1;
        int items = 0;

        Telling(Letters text) {
            tokens = new Tokens(text);
        }

        /** Reads the whole text: its FAULT, or NONE. */
        int faultOf() {
            tokens.rewind();
            witnesses = 0;
            copies = 0;
            read = NOT_TOLD;
            write = NOT_TOLD;
            items = 0;
            tokens.advance();
            // Every ITEM takes letters, so there are never more ITEMS than letters.
            for (int i = 0; i < MOST_LETTERS && tokens.kind != Tokens.END; i++) {
                if (!takeItem()) {
                    return tokens.start;
                }
                tokens.advance();
            }
            return isRight() ? NONE : tokens.start;
        }

        /** Takes one ITEM; false where the TOKEN that is reached can't stand. */
        private boolean takeItem() {
            int word = tokens.kind;
            if (!mayBegin(word)) {
                return false;
            }
            tokens.advance();
            if (tokens.kind != Tokens.NUMBER || !mayFollow(word, tokens.number)) {
                return false;
            }
            int number = tokens.number;
            tokens.advance();
            if (tokens.kind != Tokens.SEMICOLON) {
                return false;
            }
            addItem(word, number);
            return true;
        }

        private boolean mayBegin(int word) {
            switch (word) {
                case Tokens.COPY:
                case Tokens.WITNESS: return copies < MOST_COPIES;
                case Tokens.READ: return read == NOT_TOLD;
                case Tokens.WRITE: return write == NOT_TOLD;
                default: return false;
            }
        }

        private static boolean mayFollow(int word, int number) {
            if (word == Tokens.READ || word == Tokens.WRITE) {
                return isWithin(number, 1, MOST_TOTAL);
            }
            return isWithin(number, 0, MOST_VOTES);
        }

        private void addItem(int word, int number) {
            items++;
            if (word == Tokens.READ) {
                read = number;
            } else if (word == Tokens.WRITE) {
                write = number;
            } else if (copies < MOST_COPIES) {
                votes[copies] = number;
                if (word == Tokens.WITNESS) {
                    witnesses |= 1 << copies;
                }
                copies++;
            }
        }

        private boolean isRight() {
            if (items == 0) {
                read = 1;
                write = 1;
                return true;
            }
            int total = 0;
            for (int copy = 0; copy < copies; copy++) {
                total += votes[copy];
            }
            return read != NOT_TOLD && write != NOT_TOLD && isLawful(total, read, write);
        }
    }

    /**
     * How every COPY is, and all CONFIGURATIONS. It is one row of numbers,
     * so that what can be undone and images are plain copies of it.
     */
    private static final class Shape {
        private static final int UP = 0;
        private static final int GROUP = UP + MOST_COPIES;
        private static final int VERSION = GROUP + MOST_COPIES;
        private static final int VALUE = VERSION + MOST_COPIES;
        private static final int CONFIGURATION = VALUE + MOST_COPIES;
        private static final int COPIES = CONFIGURATION + MOST_COPIES;
        private static final int CONFIGURATIONS = COPIES + 1;
        private static final int FIRST = CONFIGURATIONS + 1;
        // Within a CONFIGURATION these stand behind the VOTES of its COPIES.
        private static final int WITNESSES = MOST_COPIES;
        private static final int READ = WITNESSES + 1;
        private static final int WRITE = READ + 1;
        private static final int WIDTH = WRITE + 1;
        static final int LENGTH = FIRST + MOST_CONFIGURATIONS * WIDTH;

        private final int[] row = new int[LENGTH];

        void begin(Telling told) {
            for (int i = 0; i < LENGTH; i++) {
                row[i] = 0;
            }
            row[COPIES] = told.copies;
            row[CONFIGURATIONS] = 1;
            setNeeds(0, told.read, told.write);
            for (int copy = 0; copy < told.copies; copy++) {
                boolean witness = (told.witnesses >> copy & 1) == 1;
                setVoter(0, copy, told.votes[copy], witness);
                row[UP + copy] = 1;
                row[VALUE + copy] = witness ? NONE : 0;
            }
        }

        void saveTo(int[] rows, int place) {
            System.arraycopy(row, 0, rows, place * LENGTH, LENGTH);
        }

        void loadFrom(int[] rows, int place) {
            System.arraycopy(rows, place * LENGTH, row, 0, LENGTH);
        }

        int copies() {
            return row[COPIES];
        }

        /** How many sets of COPIES there are; a set is a number's bits. */
        int sets() {
            return 1 << row[COPIES];
        }

        boolean isUp(int copy) {
            return row[UP + copy] == 1;
        }

        int groupOf(int copy) {
            return row[GROUP + copy];
        }

        int versionOf(int copy) {
            return row[VERSION + copy];
        }

        int valueOf(int copy) {
            return row[VALUE + copy];
        }

        int configurationOf(int copy) {
            return row[CONFIGURATION + copy];
        }

        int turn(int copy) {
            row[UP + copy] = 1 - row[UP + copy];
            return row[UP + copy];
        }

        void setGroup(int copy, int group) {
            row[GROUP + copy] = group;
        }

        /** All of a set get these, WITNESSES no value: how many have another VERSION then. */
        int renew(int set, int configuration, int version, int value) {
            int others = 0;
            for (int copy = 0; copy < copies(); copy++) {
                if ((set >> copy & 1) == 1) {
                    if (row[VERSION + copy] != version) {
                        others++;
                    }
                    row[VERSION + copy] = version;
                    row[CONFIGURATION + copy] = configuration;
                    row[VALUE + copy] = isWitness(configuration, copy) ? NONE : value;
                }
            }
            return others;
        }

        int configurations() {
            return row[CONFIGURATIONS];
        }

        int newest() {
            return row[CONFIGURATIONS] - 1;
        }

        int votesOf(int configuration, int copy) {
            return row[FIRST + configuration * WIDTH + copy];
        }

        boolean isWitness(int configuration, int copy) {
            return (row[FIRST + configuration * WIDTH + WITNESSES] >> copy & 1) == 1;
        }

        int readOf(int configuration) {
            return row[FIRST + configuration * WIDTH + READ];
        }

        int writeOf(int configuration) {
            return row[FIRST + configuration * WIDTH + WRITE];
        }

        int need(int configuration, int way) {
            return way == TO_READ ? readOf(configuration) : writeOf(configuration);
        }

        int total(int configuration) {
            return votesOfSet(configuration, sets() - 1);
        }

        int votesOfSet(int configuration, int set) {
            int sum = 0;
            for (int copy = 0; copy < copies(); copy++) {
                if ((set >> copy & 1) == 1) {
                    sum += votesOf(configuration, copy);
                }
            }
            return sum;
        }

        /** One more CONFIGURATION, as an old one: its number. The caller has seen that there is room. */
        int addLike(int old) {
            int number = row[CONFIGURATIONS];
            System.arraycopy(row, FIRST + old * WIDTH, row, FIRST + number * WIDTH, WIDTH);
            row[CONFIGURATIONS] = number + 1;
            return number;
        }

        void setNeeds(int configuration, int read, int write) {
            row[FIRST + configuration * WIDTH + READ] = read;
            row[FIRST + configuration * WIDTH + WRITE] = write;
        }

        void setVoter(int configuration, int copy, int votes, boolean witness) {
            int first = FIRST + configuration * WIDTH;
            row[first + copy] = votes;
            int others = row[first + WITNESSES] & ~(1 << copy);
            row[first + WITNESSES] = witness ? others | 1 << copy : others;
        }
    }

    /** What can be UNDONE: a ring of rows, so that an older one makes room for a newer. */
    private static final class Past {
        private final int[] rows = new int[MOST_UNDONE * Shape.LENGTH];
        private int next = 0;
        int size = 0;

        void remember(Shape shape) {
            shape.saveTo(rows, next);
            next = next + 1 < MOST_UNDONE ? next + 1 : 0;
            size = Math.min(size + 1, MOST_UNDONE);
        }

        boolean restore(Shape shape) {
            if (size == 0) {
                return false;
            }
            next = next > 0 ? next - 1 : MOST_UNDONE - 1;
            size--;
            shape.loadFrom(rows, next);
            return true;
        }
    }

    private static final class Images {
        private final int[] rows = new int[IMAGES * Shape.LENGTH];
        private final boolean[] kept = new boolean[IMAGES];

        void drop() {
            for (int image = 0; image < IMAGES; image++) {
                kept[image] = false;
            }
        }

        void store(int image, Shape shape) {
            shape.saveTo(rows, image);
            kept[image] = true;
        }

        boolean restore(int image, Shape shape) {
            if (kept[image]) {
                shape.loadFrom(rows, image);
            }
            return kept[image];
        }
    }

    /** How a GROUP is. */
    private static final class Meeting {
        int present = 0;
        int known = NONE;
        int votes = 0;
        int latest = NONE;
        /** The VALUE of VERSION LATEST; NONE: it has no DATA. */
        int value = NONE;
        int read = 0;
        int write = 0;

        void look(Shape shape, int group) {
            present = 0;
            known = NONE;
            votes = 0;
            latest = NONE;
            value = NONE;
            for (int copy = 0; copy < shape.copies(); copy++) {
                if (shape.isUp(copy) && shape.groupOf(copy) == group) {
                    present |= 1 << copy;
                    known = Math.max(known, shape.configurationOf(copy));
                    latest = Math.max(latest, shape.versionOf(copy));
                }
            }
            if (present != 0) {
                votes = shape.votesOfSet(known, present);
                read = shape.readOf(known);
                write = shape.writeOf(known);
                findValue(shape);
            }
        }

        private void findValue(Shape shape) {
            for (int copy = 0; copy < shape.copies() && value == NONE; copy++) {
                if ((present >> copy & 1) == 1 && shape.versionOf(copy) == latest) {
                    value = shape.valueOf(copy);
                }
            }
        }

        /** FEW, STALE or NOT_REFUSED, for what takes so many VOTES and perhaps DATA. */
        int refusal(int need, boolean needsData) {
            if (present == 0 || votes < need) {
                return FEW;
            }
            return needsData && value == NONE ? STALE : NOT_REFUSED;
        }

        int can(int need, boolean needsData) {
            return refusal(need, needsData) == NOT_REFUSED ? 1 : 0;
        }
    }

    /** What was SEEN. */
    private static final class Seen {
        private final int[] ways = new int[MOST_SEEN];
        private final boolean[] enough = new boolean[MOST_SEEN];
        int size = 0;

        boolean append(int way, boolean isEnough) {
            if (size >= MOST_SEEN) {
                return false;
            }
            ways[size] = way;
            enough[size] = isEnough;
            size++;
            return true;
        }

        /** Whether all that was SEEN is so, if just these COPIES are DOWN. */
        boolean allows(Shape shape, int down) {
            int newest = shape.newest();
            int votes = shape.votesOfSet(newest, shape.sets() - 1 & ~down);
            for (int i = 0; i < size; i++) {
                if (votes >= shape.need(newest, ways[i]) != enough[i]) {
                    return false;
                }
            }
            return true;
        }
    }

    /** How likely each sum of VOTES is, as whole numbers: of n COPIES, 10 to the power of n is certain. */
    private static final class Chances {
        private final int[] likely = new int[MOST_TOTAL + 1];
        int total = 0;
        int upper = 0;
        int lower = 1;

        void begin() {
            likely[0] = 1;
            total = 0;
        }

        /** One COPY more, that is UP by x of 10. */
        void join(int votes, int x) {
            int most = Math.min(total + votes, MOST_TOTAL);
            // From above, for a sum is made of those at and below it.
            for (int sum = most; sum >= 0; sum--) {
                int without = sum <= total ? likely[sum] * (TENTHS - x) : 0;
                int with = sum >= votes ? likely[sum - votes] * x : 0;
                likely[sum] = without + with;
            }
            total = most;
        }

        int atLeast(int need) {
            int sum = 0;
            for (int votes = Math.max(need, 0); votes <= total; votes++) {
                sum += likely[votes];
            }
            return sum;
        }

        /** The chance of so many VOTES or more, in least terms: only 2 and 5 divide a power of 10. */
        void reduce(int need, int copies) {
            upper = atLeast(need);
            lower = 1;
            for (int i = 0; i < copies; i++) {
                lower *= TENTHS;
            }
            // Each pass takes one 2 and one 5 at most, just as many as the lower number has.
            for (int i = 0; i < copies; i++) {
                if (upper % 2 == 0) {
                    upper /= 2;
                    lower /= 2;
                }
                if (upper % 5 == 0) {
                    upper /= 5;
                    lower /= 5;
                }
            }
        }
    }

    /** BEST. */
    private static final class Search {
        private static final int BITS = 2, MASK = 3;

        int much = NONE;
        int votes = NONE;
        int write = NONE;

        void run(Chances chances, int copies, int x, int a) {
            much = NONE;
            for (int code = 1; code < 1 << BITS * copies; code++) {
                if (isFalling(code, copies)) {
                    chances.begin();
                    for (int copy = 0; copy < copies; copy++) {
                        chances.join(votesIn(code, copy), x);
                    }
                    tryWrites(chances, code, a);
                }
            }
        }

        /**
         * All COPIES are UP alike, so it does not matter whose the VOTES are;
         * of all orders the falling one is the least number.
         */
        private static boolean isFalling(int code, int copies) {
            for (int copy = 1; copy < copies; copy++) {
                if (votesIn(code, copy) > votesIn(code, copy - 1)) {
                    return false;
                }
            }
            return true;
        }

        private static int votesIn(int code, int copy) {
            return code >> BITS * copy & MASK;
        }

        private void tryWrites(Chances chances, int code, int a) {
            for (int need = chances.total / 2 + 1; need <= chances.total; need++) {
                int reading = chances.atLeast(chances.total + 1 - need);
                int sum = a * reading + (TENTHS - a) * chances.atLeast(need);
                if (sum > much) {
                    much = sum;
                    votes = code;
                    write = need;
                }
            }
        }
    }
}
