/**
 * A flag language that is read from both sides of a mast. What each call does is told by the
 * promises of DOC.md; README.md says how to use the class.
 */
public final class MastFlags {
    public static final int NO_SUCH = -1;
    public static final int BAD_VALUE = -2;
    public static final int NOT_POSSIBLE = -3;
    public static final int LIMIT = -4;
    public static final int BAD_TEXT = -5;
    public static final int NONE = -6;
    public static final int PENNANT = 10;

    private static final int FLAGS = 10;
    private static final int COLOURS = 8;
    private static final int WEIGHTS = 10;
    private static final int PENNANTS = 3;
    private static final int STRENGTHS = 10;
    private static final int FIRST_STRENGTH = 5;
    private static final int MOST_STOCK = 3;
    private static final int HALYARDS = 5;
    private static final int PLACES = 4;
    private static final int ENTRIES = 12;
    private static final int WORDS = 100;
    private static final int MESSAGES = 8;
    private static final int CHARACTERS = 50;
    private static final int FIRST_CODE = 33;
    private static final int LAST_CODE = 126;
    private static final int RECORDED_STATES = 5;

    private static final int FRONT = 0;
    private static final int BEHIND = 1;

    private static final int DOWN = 0;
    private static final int AT_THE_DIP = 1;
    private static final int CLOSE_UP = 2;

    /** Stands where a hoist has no word because it has no signs; no answer of the face is this. */
    private static final int EMPTY = -7;

    private final State now = new State();
    private final State saved = new State();
    private boolean isSaved = false;
    private final History history = new History();
    private final Text text = new Text();
    private final Reading front = new Reading(FRONT);
    private final Reading behind = new Reading(BEHIND);

    public MastFlags() {
    }

    // ---- flags and wind

    public int paint(int flag, int hoist, int fly, int weight) {
        if (!isBelow(flag, FLAGS)) {
            return NO_SUCH;
        }
        if (!isBelow(hoist, COLOURS) || !isBelow(fly, COLOURS) || !isBelow(weight, WEIGHTS)) {
            return BAD_VALUE;
        }
        recordAndBringPennantDown();
        now.flags.change(flag, hoist, fly, weight);
        return now.flags.countWith(hoist, fly);
    }

    public int setStock(int stock) {
        if (stock < 1 || stock > MOST_STOCK) {
            return BAD_VALUE;
        }
        if (now.hoists.mostOfAKind() > stock) {
            return NOT_POSSIBLE;
        }
        // The stock is not among what brings the pennant of the other ship down.
        history.record(now);
        int previous = now.stock;
        now.stock = stock;
        return previous;
    }

    public int setWind(int strength, int from) {
        if (!isBelow(strength, STRENGTHS) || !isBelow(from, 2)) {
            return BAD_VALUE;
        }
        recordAndBringPennantDown();
        int previous = now.strength;
        now.strength = strength;
        now.from = from;
        return previous;
    }

    public int flag(int flag, int part) {
        if (!isBelow(flag, FLAGS)) {
            return NO_SUCH;
        }
        switch (part) {
            case 0:
                return now.flags.atHoist(flag);
            case 1:
                return now.flags.atFly(flag);
            case 2:
                return now.flags.weightOf(flag);
            case 3:
                return now.stock - now.hoists.countOf(flag);
            case 4:
                return now.flags.firstWith(now.flags.atFly(flag), now.flags.atHoist(flag));
            default:
                return BAD_VALUE;
        }
    }

    // ---- hoists

    public int bend(int halyard, int sign) {
        if (!isBelow(halyard, HALYARDS) || !isSign(sign)) {
            return NO_SUCH;
        }
        int size = now.hoists.sizeOf(halyard);
        if (sign > PENNANT && sign - PENNANT > size) {
            return NOT_POSSIBLE;
        }
        if (size >= PLACES || now.hoists.countOf(sign) >= now.stock) {
            return LIMIT;
        }
        recordAndBringPennantDown();
        now.hoists.add(halyard, sign);
        return size + 1;
    }

    public int unbend(int halyard) {
        if (!isBelow(halyard, HALYARDS)) {
            return NO_SUCH;
        }
        if (now.hoists.sizeOf(halyard) == 0) {
            return NOT_POSSIBLE;
        }
        recordAndBringPennantDown();
        return now.hoists.removeLowest(halyard);
    }

    public int exchange(int halyard, int other) {
        if (!isBelow(halyard, HALYARDS) || !isBelow(other, HALYARDS)) {
            return NO_SUCH;
        }
        if (halyard == other) {
            return BAD_VALUE;
        }
        recordAndBringPennantDown();
        now.hoists.swap(halyard, other);
        return now.hoists.sizeOf(halyard) + now.hoists.sizeOf(other);
    }

    public int lower() {
        boolean isAnswered = now.pennant == CLOSE_UP;
        recordAndBringPennantDown();
        int logged = 0;
        if (isAnswered) {
            Reading reading = read(now.shipSide);
            logged = reading.size();
            now.log.add(reading.message, logged);
        }
        now.hoists.clear();
        return logged;
    }

    public int sign(int halyard, int place, int part) {
        if (!now.hoists.has(halyard, place)) {
            return NO_SUCH;
        }
        switch (part) {
            case 0:
                return now.hoists.signAt(halyard, place);
            case 1:
                return now.hoists.flagAt(halyard, place);
            case 2:
                return now.flags.weightOf(now.hoists.flagAt(halyard, place)) > now.strength ? 1 : 0;
            default:
                return BAD_VALUE;
        }
    }

    // ---- the book

    public int enter(int flags, int word) {
        if (!isFlagsNumber(flags) || !isBelow(word, WORDS)) {
            return BAD_VALUE;
        }
        if (now.book.size() >= ENTRIES) {
            return LIMIT;
        }
        recordAndBringPennantDown();
        now.book.add(flags, word);
        return now.book.size();
    }

    public int strike(int entry) {
        if (!isBelow(entry, now.book.size())) {
            return NO_SUCH;
        }
        recordAndBringPennantDown();
        return now.book.remove(entry);
    }

    public int entry(int entry, int part) {
        if (!isBelow(entry, now.book.size())) {
            return NO_SUCH;
        }
        switch (part) {
            case 0:
                return now.book.flagsAt(entry);
            case 1:
                return now.book.wordAt(entry);
            default:
                return BAD_VALUE;
        }
    }

    // ---- reading

    public int seen(int side, int halyard, int place) {
        if (!isBelow(side, 2)) {
            return BAD_VALUE;
        }
        if (!now.hoists.has(halyard, place)) {
            return NO_SUCH;
        }
        int flag = now.hoists.flagAt(halyard, place);
        return now.flags.takenFor(flag, isHoistFirst(side, now.from), now.strength);
    }

    public int word(int side, int word) {
        if (!isBelow(side, 2)) {
            return BAD_VALUE;
        }
        Reading reading = read(side);
        return isBelow(word, reading.size()) ? reading.wordAt(word) : NO_SUCH;
    }

    public int known(int side) {
        if (!isBelow(side, 2)) {
            return BAD_VALUE;
        }
        return read(side).countKnown();
    }

    public int isSame() {
        return read(FRONT).agreesWith(read(BEHIND)) ? 1 : 0;
    }

    // ---- answers

    public int sail(int side) {
        if (!isBelow(side, 2)) {
            return BAD_VALUE;
        }
        recordAndBringPennantDown();
        int previous = now.shipSide;
        now.shipSide = side;
        return previous;
    }

    public int answer() {
        if (now.hoists.countAll() == 0 || now.pennant == CLOSE_UP) {
            return NOT_POSSIBLE;
        }
        if (now.pennant == AT_THE_DIP && !read(now.shipSide).knowsAll()) {
            return NOT_POSSIBLE;
        }
        history.record(now);
        now.pennant = now.pennant == DOWN ? AT_THE_DIP : CLOSE_UP;
        return now.pennant;
    }

    public int logged(int message, int part) {
        if (!isBelow(message, now.log.size())) {
            return NO_SUCH;
        }
        if (part < 0 || part > HALYARDS) {
            return BAD_VALUE;
        }
        // Behind the check above, since a part out of range is not the number of any word.
        if (part > now.log.wordsOf(message)) {
            return NO_SUCH;
        }
        return part == 0 ? now.log.wordsOf(message) : now.log.wordAt(message, part - 1);
    }

    public int total(int what) {
        switch (what) {
            case 0:
                return now.strength;
            case 1:
                return now.from;
            case 2:
                return now.stock;
            case 3:
                return now.hoists.countAll();
            case 4:
                return now.hoists.countNotEmpty();
            case 5:
                return now.book.size();
            case 6:
                return now.shipSide;
            case 7:
                return now.pennant;
            case 8:
                return now.log.size();
            case 9:
                return now.log.countAll();
            default:
                return BAD_VALUE;
        }
    }

    // ---- predictions; they change nothing

    public int leastWind(int side) {
        if (!isBelow(side, 2)) {
            return BAD_VALUE;
        }
        Reading reading = readingOf(side);
        for (int strength = 0; strength < STRENGTHS; strength++) {
            reading.look(now, strength, now.from);
            if (reading.knowsAll()) {
                return strength;
            }
        }
        return NONE;
    }

    public int ifTurned(int side) {
        if (!isBelow(side, 2)) {
            return BAD_VALUE;
        }
        Reading reading = readingOf(side);
        reading.look(now, now.strength, 1 - now.from);
        return reading.countKnown();
    }

    public int mendingExchange() {
        if (read(FRONT).agreesWith(read(BEHIND))) {
            return 0;
        }
        for (int halyard = 0; halyard < HALYARDS; halyard++) {
            for (int other = halyard + 1; other < HALYARDS; other++) {
                front.arrange(halyard, other);
                behind.arrange(halyard, other);
                if (front.agreesWith(behind)) {
                    return 10 * halyard + other;
                }
            }
        }
        return NONE;
    }

    public int bestEntry(int word) {
        if (!isBelow(word, WORDS)) {
            return BAD_VALUE;
        }
        int best = NONE;
        int fewest = PLACES + 1;
        for (int entry = 0; entry < now.book.size(); entry++) {
            int flags = now.book.flagsAt(entry);
            int length = lengthOf(flags);
            if (now.book.wordAt(entry) == word && length < fewest && isKnownAsItself(flags)) {
                best = entry;
                fewest = length;
            }
        }
        return best;
    }

    // ---- texts

    public int append(int code) {
        if (code < FIRST_CODE || code > LAST_CODE) {
            return BAD_VALUE;
        }
        if (text.size() >= CHARACTERS) {
            return LIMIT;
        }
        text.add(code);
        return text.size();
    }

    public int clearText() {
        int size = text.size();
        text.clear();
        return size;
    }

    public int errorPosition() {
        return text.parse();
    }

    public int hoist() {
        if (text.parse() != NONE) {
            return BAD_TEXT;
        }
        if (text.hoists.mostOfAKind() > now.stock) {
            return LIMIT;
        }
        recordAndBringPennantDown();
        now.hoists.copyFrom(text.hoists);
        text.clear();
        return now.hoists.countAll();
    }

    // ---- undo, saved state

    public int undo() {
        if (history.size() == 0) {
            return NOT_POSSIBLE;
        }
        history.takeBack(now);
        return history.size();
    }

    public int save() {
        saved.copyFrom(now);
        isSaved = true;
        return now.hoists.countAll();
    }

    public int restore() {
        if (!isSaved) {
            return NOT_POSSIBLE;
        }
        history.record(now);
        now.copyFrom(saved);
        return now.hoists.countAll();
    }

    // ---- inside

    private void recordAndBringPennantDown() {
        history.record(now);
        now.pennant = DOWN;
    }

    private Reading readingOf(int side) {
        return side == FRONT ? front : behind;
    }

    /** Reads the mast from a side as things are now. */
    private Reading read(int side) {
        Reading reading = readingOf(side);
        reading.look(now, now.strength, now.from);
        return reading;
    }

    /** Whether the reader from the front takes each flag of an entry for that flag itself. */
    private boolean isKnownAsItself(int flags) {
        boolean isHoistFirst = isHoistFirst(FRONT, now.from);
        int rest = flags;
        for (int place = 0; place < PLACES && rest >= 10; place++) {
            int flag = rest % 10;
            if (now.flags.takenFor(flag, isHoistFirst, now.strength) != flag) {
                return false;
            }
            rest /= 10;
        }
        return true;
    }

    private static boolean isBelow(int value, int bound) {
        return value >= 0 && value < bound;
    }

    /**
     * Whether a reader sees the colour at the hoist on the left. The wind from the right mirrors a
     * flag, and so does a look from behind; both together leave it as it is.
     */
    private static boolean isHoistFirst(int side, int from) {
        return side == from;
    }

    private static boolean isSign(int sign) {
        return isBelow(sign, FLAGS) || (sign > PENNANT && sign <= PENNANT + PENNANTS);
    }

    /** Whether a number is 1 to 4 decimal digits behind a leading 1. */
    private static boolean isFlagsNumber(int flags) {
        int leading = 10;
        for (int length = 1; length <= PLACES; length++) {
            if (flags >= leading && flags < 2 * leading) {
                return true;
            }
            leading *= 10;
        }
        return false;
    }

    /** The number of flags that such a number tells. */
    private static int lengthOf(int flags) {
        int length = 0;
        int rest = flags;
        while (length < PLACES && rest >= 10) {
            rest /= 10;
            length++;
        }
        return length;
    }

    /** The colours and weights of the 10 flags. */
    private static final class FlagLocker {
        private final int[] hoistColours = new int[FLAGS];
        private final int[] flyColours = new int[FLAGS];
        private final int[] weights = new int[FLAGS];

        FlagLocker() {
            for (int flag = 0; flag < FLAGS; flag++) {
                hoistColours[flag] = flag % COLOURS;
                flyColours[flag] = (3 * flag + 1) % COLOURS;
                weights[flag] = flag / 2;
            }
        }

        void copyFrom(FlagLocker other) {
            System.arraycopy(other.hoistColours, 0, hoistColours, 0, FLAGS);
            System.arraycopy(other.flyColours, 0, flyColours, 0, FLAGS);
            System.arraycopy(other.weights, 0, weights, 0, FLAGS);
        }

        void change(int flag, int hoistColour, int flyColour, int weight) {
            if (isBelow(flag, FLAGS)) {
                hoistColours[flag] = hoistColour;
                flyColours[flag] = flyColour;
                weights[flag] = weight;
            }
        }

        int atHoist(int flag) {
            return isBelow(flag, FLAGS) ? hoistColours[flag] : NONE;
        }

        int atFly(int flag) {
            return isBelow(flag, FLAGS) ? flyColours[flag] : NONE;
        }

        int weightOf(int flag) {
            return isBelow(flag, FLAGS) ? weights[flag] : NONE;
        }

        int countWith(int hoistColour, int flyColour) {
            int count = 0;
            for (int flag = 0; flag < FLAGS; flag++) {
                if (hoistColours[flag] == hoistColour && flyColours[flag] == flyColour) {
                    count++;
                }
            }
            return count;
        }

        int firstWith(int hoistColour, int flyColour) {
            for (int flag = 0; flag < FLAGS; flag++) {
                if (hoistColours[flag] == hoistColour && flyColours[flag] == flyColour) {
                    return flag;
                }
            }
            return NONE;
        }

        /** The flag for which a reader takes a flag, NONE if it is not known. */
        int takenFor(int flag, boolean isHoistFirst, int strength) {
            if (!isBelow(flag, FLAGS) || weights[flag] > strength) {
                return NONE;
            }
            if (isHoistFirst) {
                return firstWith(hoistColours[flag], flyColours[flag]);
            }
            return firstWith(flyColours[flag], hoistColours[flag]);
        }
    }

    /** The signs on the 5 halyards. */
    private static final class Hoists {
        private final int[] signs = new int[HALYARDS * PLACES];
        private final int[] sizes = new int[HALYARDS];

        void copyFrom(Hoists other) {
            System.arraycopy(other.signs, 0, signs, 0, HALYARDS * PLACES);
            System.arraycopy(other.sizes, 0, sizes, 0, HALYARDS);
        }

        void clear() {
            for (int halyard = 0; halyard < HALYARDS; halyard++) {
                sizes[halyard] = 0;
            }
        }

        int sizeOf(int halyard) {
            return isBelow(halyard, HALYARDS) ? sizes[halyard] : 0;
        }

        boolean has(int halyard, int place) {
            return halyard >= 0 && halyard < HALYARDS
                    && place >= 1 && place <= PLACES && place <= sizes[halyard];
        }

        int signAt(int halyard, int place) {
            return has(halyard, place) ? signs[halyard * PLACES + place - 1] : NO_SUCH;
        }

        /** The flag for which a sign stands; a pennant leads at most 3 times to a higher place. */
        int flagAt(int halyard, int place) {
            int sign = signAt(halyard, place);
            for (int step = 1; step < PLACES && sign > PENNANT; step++) {
                sign = signAt(halyard, sign - PENNANT);
            }
            return sign;
        }

        void add(int halyard, int sign) {
            if (isBelow(halyard, HALYARDS) && isBelow(sizes[halyard], PLACES)) {
                signs[halyard * PLACES + sizes[halyard]] = sign;
                sizes[halyard]++;
            }
        }

        int removeLowest(int halyard) {
            int place = sizeOf(halyard);
            if (!has(halyard, place)) {
                return NO_SUCH;
            }
            sizes[halyard]--;
            return signs[halyard * PLACES + place - 1];
        }

        void swap(int halyard, int other) {
            if (!isBelow(halyard, HALYARDS) || !isBelow(other, HALYARDS)) {
                return;
            }
            for (int place = 0; place < PLACES; place++) {
                int sign = signs[halyard * PLACES + place];
                signs[halyard * PLACES + place] = signs[other * PLACES + place];
                signs[other * PLACES + place] = sign;
            }
            int size = sizes[halyard];
            sizes[halyard] = sizes[other];
            sizes[other] = size;
        }

        int countAll() {
            int count = 0;
            for (int halyard = 0; halyard < HALYARDS; halyard++) {
                count += sizes[halyard];
            }
            return count;
        }

        int countNotEmpty() {
            int count = 0;
            for (int halyard = 0; halyard < HALYARDS; halyard++) {
                if (sizes[halyard] > 0) {
                    count++;
                }
            }
            return count;
        }

        /** How many pieces of a sign are on the mast. */
        int countOf(int sign) {
            int count = 0;
            for (int halyard = 0; halyard < HALYARDS; halyard++) {
                for (int place = 1; place <= sizes[halyard]; place++) {
                    if (signAt(halyard, place) == sign) {
                        count++;
                    }
                }
            }
            return count;
        }

        /** The number of pieces of that sign of which most are on the mast. */
        int mostOfAKind() {
            int most = 0;
            for (int sign = 0; sign <= PENNANT + PENNANTS; sign++) {
                most = Math.max(most, countOf(sign));
            }
            return most;
        }
    }

    /** The code book; its entries' flags are held as the numbers of enter(). */
    private static final class Book {
        private final int[] flags = new int[ENTRIES];
        private final int[] words = new int[ENTRIES];
        private int size = 0;

        void copyFrom(Book other) {
            System.arraycopy(other.flags, 0, flags, 0, ENTRIES);
            System.arraycopy(other.words, 0, words, 0, ENTRIES);
            size = other.size;
        }

        int size() {
            return size;
        }

        int flagsAt(int entry) {
            return isBelow(entry, ENTRIES) ? flags[entry] : NONE;
        }

        int wordAt(int entry) {
            return isBelow(entry, ENTRIES) ? words[entry] : NONE;
        }

        void add(int entryFlags, int word) {
            if (isBelow(size, ENTRIES)) {
                flags[size] = entryFlags;
                words[size] = word;
                size++;
            }
        }

        int remove(int entry) {
            if (!isBelow(entry, size) || size > ENTRIES) {
                return NONE;
            }
            int word = words[entry];
            for (int at = entry; at + 1 < size; at++) {
                flags[at] = flags[at + 1];
                words[at] = words[at + 1];
            }
            size--;
            return word;
        }

        /** The word of the first entry with these flags. */
        int wordFor(int entryFlags) {
            for (int entry = 0; entry < size && entry < ENTRIES; entry++) {
                if (flags[entry] == entryFlags) {
                    return words[entry];
                }
            }
            return NONE;
        }
    }

    /** The latest 8 messages that were answered, the oldest one first. */
    private static final class MessageLog {
        private final int[] words = new int[MESSAGES * HALYARDS];
        private final int[] lengths = new int[MESSAGES];
        private int size = 0;
        private int all = 0;

        void copyFrom(MessageLog other) {
            System.arraycopy(other.words, 0, words, 0, MESSAGES * HALYARDS);
            System.arraycopy(other.lengths, 0, lengths, 0, MESSAGES);
            size = other.size;
            all = other.all;
        }

        int size() {
            return size;
        }

        int countAll() {
            return all;
        }

        int wordsOf(int message) {
            return isBelow(message, MESSAGES) ? lengths[message] : 0;
        }

        int wordAt(int message, int index) {
            return isBelow(index, HALYARDS) && isBelow(message, MESSAGES)
                    ? words[message * HALYARDS + index] : NONE;
        }

        /** Adds the first words of a row that has room for one of each halyard. */
        void add(int[] row, int length) {
            if (size >= MESSAGES) {
                System.arraycopy(words, HALYARDS, words, 0, (MESSAGES - 1) * HALYARDS);
                System.arraycopy(lengths, 1, lengths, 0, MESSAGES - 1);
                size = MESSAGES - 1;
            }
            if (isBelow(size, MESSAGES)) {
                for (int index = 0; index < HALYARDS && index < row.length; index++) {
                    words[size * HALYARDS + index] = row[index];
                }
                lengths[size] = length;
                size++;
                all++;
            }
        }
    }

    /** All that undo() and restore() bring back. */
    private static final class State {
        final FlagLocker flags = new FlagLocker();
        final Hoists hoists = new Hoists();
        final Book book = new Book();
        final MessageLog log = new MessageLog();
        int stock = 1;
        int strength = FIRST_STRENGTH;
        int from = 0;
        int shipSide = FRONT;
        int pennant = DOWN;

        State() {
        }

        void copyFrom(State other) {
            flags.copyFrom(other.flags);
            hoists.copyFrom(other.hoists);
            book.copyFrom(other.book);
            log.copyFrom(other.log);
            stock = other.stock;
            strength = other.strength;
            from = other.from;
            shipSide = other.shipSide;
            pennant = other.pennant;
        }

        /** The word as which a hoist is read, EMPTY if it has no signs, NONE if it is not known. */
        int readHoist(int halyard, boolean isHoistFirst, int windStrength) {
            int size = hoists.sizeOf(halyard);
            if (size == 0) {
                return EMPTY;
            }
            int number = 1;
            for (int place = 1; place <= size; place++) {
                int flag = flags.takenFor(hoists.flagAt(halyard, place), isHoistFirst, windStrength);
                if (flag == NONE) {
                    return NONE;
                }
                number = 10 * number + flag;
            }
            return book.wordFor(number);
        }
    }

    /** What a reader on one side reads. */
    private static final class Reading {
        private final int side;
        private final int[] wordsByHalyard = new int[HALYARDS];
        final int[] message = new int[HALYARDS];
        private int size = 0;

        Reading(int side) {
            this.side = side;
        }

        void look(State state, int strength, int from) {
            boolean isHoistFirst = isHoistFirst(side, from);
            for (int halyard = 0; halyard < HALYARDS; halyard++) {
                wordsByHalyard[halyard] = state.readHoist(halyard, isHoistFirst, strength);
            }
            arrange(0, 0);
        }

        /** Makes the message as it would be with the hoists of two halyards exchanged. */
        void arrange(int halyard, int other) {
            size = 0;
            for (int step = 0; step < HALYARDS; step++) {
                int at = side == FRONT ? step : HALYARDS - 1 - step;
                if (at == halyard) {
                    at = other;
                } else if (at == other) {
                    at = halyard;
                }
                if (isBelow(at, HALYARDS) && isBelow(size, HALYARDS) && wordsByHalyard[at] != EMPTY) {
                    message[size] = wordsByHalyard[at];
                    size++;
                }
            }
        }

        int size() {
            return size;
        }

        int wordAt(int index) {
            return isBelow(index, HALYARDS) ? message[index] : NONE;
        }

        int countKnown() {
            int count = 0;
            for (int index = 0; index < size && index < HALYARDS; index++) {
                if (message[index] != NONE) {
                    count++;
                }
            }
            return count;
        }

        boolean knowsAll() {
            return size > 0 && countKnown() == size;
        }

        /** Whether both readers know all words and read the same words in the same order. */
        boolean agreesWith(Reading other) {
            if (!knowsAll() || size != other.size) {
                return false;
            }
            for (int index = 0; index < size && index < HALYARDS; index++) {
                if (message[index] != other.message[index]) {
                    return false;
                }
            }
            return true;
        }
    }

    /** The buffer, and the hoists that it tells. */
    private static final class Text {
        private static final int WANT_HALYARD = 0;
        private static final int WANT_COLON = 1;
        private static final int WANT_FLAG = 2;
        private static final int WANT_MORE = 3;
        private static final int WANT_PENNANT = 4;

        private final int[] characters = new int[CHARACTERS];
        private int size = 0;
        final Hoists hoists = new Hoists();
        private int halyard = -1;
        private int want = WANT_HALYARD;

        Text() {
        }

        int size() {
            return size;
        }

        void add(int code) {
            if (isBelow(size, CHARACTERS)) {
                characters[size] = code;
                size++;
            }
        }

        void clear() {
            size = 0;
        }

        /** Fills the hoists from the buffer; tells where it stops being a text, NONE if it is one. */
        int parse() {
            hoists.clear();
            halyard = -1;
            want = WANT_HALYARD;
            for (int index = 0; index < size && index < CHARACTERS; index++) {
                if (!accept(characters[index])) {
                    return index;
                }
            }
            return want == WANT_MORE ? NONE : size;
        }

        private boolean accept(int code) {
            switch (want) {
                case WANT_HALYARD:
                    return acceptHalyard(code - '0');
                case WANT_COLON:
                    want = WANT_FLAG;
                    return code == ':';
                case WANT_FLAG:
                    return acceptFlag(code - '0');
                case WANT_MORE:
                    return acceptMore(code);
                default:
                    return acceptPennant(code - '0');
            }
        }

        private boolean acceptHalyard(int digit) {
            if (digit <= halyard || digit >= HALYARDS) {
                return false;
            }
            halyard = digit;
            want = WANT_COLON;
            return true;
        }

        private boolean acceptFlag(int digit) {
            if (!isBelow(digit, FLAGS) || hoists.sizeOf(halyard) >= PLACES) {
                return false;
            }
            hoists.add(halyard, digit);
            want = WANT_MORE;
            return true;
        }

        /** Behind a sign stands a comma, unless no halyard is left for it, or another sign. */
        private boolean acceptMore(int code) {
            if (code == ',') {
                want = WANT_HALYARD;
                return halyard < HALYARDS - 1;
            }
            if (code == 'r') {
                want = WANT_PENNANT;
                return hoists.sizeOf(halyard) < PLACES;
            }
            return acceptFlag(code - '0');
        }

        private boolean acceptPennant(int digit) {
            if (digit < 1 || digit > PENNANTS || digit > hoists.sizeOf(halyard)) {
                return false;
            }
            hoists.add(halyard, PENNANT + digit);
            want = WANT_MORE;
            return true;
        }
    }

    /** The latest recorded states, in a ring whose rows are used again. */
    private static final class History {
        private final State[] states = new State[RECORDED_STATES];
        private int next = 0;
        private int size = 0;

        History() {
            for (int index = 0; index < RECORDED_STATES; index++) {
                states[index] = new State();
            }
        }

        int size() {
            return size;
        }

        void record(State state) {
            State slot = slotAt(next);
            if (slot != null) {
                slot.copyFrom(state);
                next = (next + 1) % RECORDED_STATES;
                size = Math.min(size + 1, RECORDED_STATES);
            }
        }

        /** Copies the latest recorded state into the given one and discards it. */
        void takeBack(State state) {
            int latest = (next + RECORDED_STATES - 1) % RECORDED_STATES;
            State slot = slotAt(latest);
            if (slot != null && size > 0) {
                state.copyFrom(slot);
                next = latest;
                size--;
            }
        }

        private State slotAt(int index) {
            return isBelow(index, RECORDED_STATES) ? states[index] : null;
        }
    }
}
