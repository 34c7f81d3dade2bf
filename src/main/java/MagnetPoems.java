/**
 * Magnet words on the shared doors of four rooms: poems that are scored, thefts at midnight,
 * and endings that are borrowed.
 */
public final class MagnetPoems {
    public static final int NONE = -1;

    private static final int WORDS = 40;
    private static final int DOORS = 4;
    private static final int LINES_OF_DOOR = 4;
    private static final int LINES = 16;
    private static final int PLACES = 6;
    private static final int WORDS_OF_DOOR = 24;

    private static final int KINDS = 4;
    private static final int ENDINGS = 5;
    private static final int THING = 0;
    private static final int DEED = 1;
    private static final int COLOUR = 2;
    private static final int JOINT = 3;

    private static final int STANDS = 0;
    private static final int LINE_IS_FULL = 1;
    private static final int TOO_MANY_BEATS = 2;
    private static final int SAME_KINDS = 3;
    private static final int JOINT_AT_END = 4;

    private static final int MOST_BEATS = 12;
    private static final int THING_AND_DEED_WORTH = 5;
    private static final int PERFECT_BEATS = 8;
    private static final int PERFECT_BEATS_WORTH = 3;
    private static final int RHYME_WORTH = 4;

    private static final int SETTINGS = 3;
    private static final int JOINTS_SETTING = 0;
    private static final int RICH_SETTING = 1;
    private static final int WATCH_SETTING = 2;
    private static final int RICH_AT_FIRST = 20;
    private static final int WATCH_AT_FIRST = 1;

    private static final int MOST_NIGHTS_AT_ONCE = 20;
    private static final int MOST_NIGHTS = 9999;

    private static final int MOST_CODES = 60;
    private static final int LOWEST_CODE = 33;
    private static final int HIGHEST_CODE = 126;

    private static final int SLOTS = 2;
    private static final int MOST_SAVED = 6;

    private static final int WORD_PROPERTIES = 7;
    private static final int LINE_PROPERTIES = 8;
    private static final int DOOR_PROPERTIES = 5;
    private static final int COUNTS = 9;

    private static final int FIRST_PLACE_PROPERTY = 3;
    private static final int DIGEST_NIGHTS = 3;
    private static final long DIGEST_START = 3391L;
    private static final long DIGEST_FACTOR = 31L;
    private static final long UNITS_OF_FRACTION = 4503599627370496L;
    private static final long EXPONENT_OF_ONE = 1023L;

    private final Board board = new Board();
    private final Board dream = new Board();
    private final History history = new History();
    private final Board[] slots = new Board[SLOTS];
    private final boolean[] kept = new boolean[SLOTS];
    private final int[] buffer = new int[MOST_CODES];
    private int bufferLength;
    private final PoemReader reader = new PoemReader();

    public MagnetPoems() {
        for (int slot = 0; slot < slots.length; slot++) {
            slots[slot] = new Board();
        }
    }

    // ---- words

    public int put(int word, int door, int line, int place)
            throws IndexOutOfBoundsException, IllegalStateException {
        if (!isWord(word) || !isPlaceToPut(door, line, place)) {
            throw new IndexOutOfBoundsException("no such word, door, line or place");
        }
        if (!board.isInBag(word)) {
            throw new IllegalStateException("the word is not in the bag");
        }
        history.save(board);
        int target = lineNumber(door, line);
        int reason = board.refusal(word, target, place);
        if (reason != STANDS) {
            board.refused++;
            return reason;
        }
        board.insertWord(word, target, place);
        board.shown++;
        return STANDS;
    }

    public int takeOff(int word) throws IndexOutOfBoundsException, IllegalStateException {
        if (!isWord(word)) {
            throw new IndexOutOfBoundsException("no such word");
        }
        if (board.isInBag(word)) {
            throw new IllegalStateException("the word is in the bag");
        }
        history.save(board);
        int line = board.homeOf(word);
        board.removeWord(word);
        return lineCode(line);
    }

    public int move(int word, int door, int line) throws IndexOutOfBoundsException, IllegalStateException {
        if (!isWord(word) || !isLine(door, line)) {
            throw new IndexOutOfBoundsException("no such word, door or line");
        }
        int target = lineNumber(door, line);
        if (board.isInBag(word) || board.homeOf(word) == target) {
            throw new IllegalStateException("the word is in the bag, or on this line");
        }
        history.save(board);
        int place = board.sizeOf(target);
        int reason = board.refusal(word, target, place);
        if (reason != STANDS) {
            board.refused++;
            return reason;
        }
        board.removeWord(word);
        board.insertWord(word, target, place);
        board.shown++;
        return STANDS;
    }

    public int clearDoor(int door) throws IndexOutOfBoundsException {
        if (!isDoor(door)) {
            throw new IndexOutOfBoundsException("no such door");
        }
        history.save(board);
        return board.emptyDoor(door);
    }

    // ---- endings, nights, settings

    public int borrow(int door, int line, int fromDoor, int fromLine)
            throws IndexOutOfBoundsException, IllegalArgumentException, IllegalStateException {
        if (!isLine(door, line) || !isLine(fromDoor, fromLine)) {
            throw new IndexOutOfBoundsException("no such door or line");
        }
        if (door == fromDoor) {
            throw new IllegalArgumentException("both doors are the same");
        }
        int borrower = lineNumber(door, line);
        int lender = lineNumber(fromDoor, fromLine);
        if (!board.isFreeForLoan(borrower) || !board.isFreeForLoan(lender)) {
            throw new IllegalStateException("a line has no words, or borrows or lends already");
        }
        history.save(board);
        board.startLoan(borrower, lender);
        return board.endingOn(borrower);
    }

    public int bringBack(int door, int line) throws IndexOutOfBoundsException, IllegalStateException {
        if (!isLine(door, line)) {
            throw new IndexOutOfBoundsException("no such door or line");
        }
        int borrower = lineNumber(door, line);
        if (!board.borrows(borrower)) {
            throw new IllegalStateException("the line does not borrow");
        }
        history.save(board);
        board.endLoan(borrower);
        return board.endingOn(borrower);
    }

    public int sleep(int nights) throws IllegalArgumentException, IllegalStateException {
        if (!isNights(nights)) {
            throw new IllegalArgumentException("nights is out of range");
        }
        if (board.nights + nights > MOST_NIGHTS) {
            throw new IllegalStateException("too many nights would have passed");
        }
        history.save(board);
        return board.passNights(nights);
    }

    public int set(int setting, int value) throws IndexOutOfBoundsException, IllegalArgumentException {
        if (!isSetting(setting)) {
            throw new IndexOutOfBoundsException("no such setting");
        }
        if (value < 0 || value > greatestOf(setting)) {
            throw new IllegalArgumentException("value is out of range");
        }
        history.save(board);
        int previous = board.settingValue(setting);
        board.changeSetting(setting, value);
        return previous;
    }

    // ---- texts, snapshots

    public int append(int code) throws IllegalArgumentException, IllegalStateException {
        if (code < LOWEST_CODE || code > HIGHEST_CODE) {
            throw new IllegalArgumentException("code is not 33 to 126");
        }
        if (bufferLength >= MOST_CODES) {
            throw new IllegalStateException("the buffer is full");
        }
        addCode(code);
        return bufferLength;
    }

    public int clearBuffer() {
        int length = bufferLength;
        bufferLength = 0;
        return length;
    }

    public int firstError() {
        return readBuffer();
    }

    public int load(int door) throws IndexOutOfBoundsException, IllegalArgumentException {
        if (!isDoor(door)) {
            throw new IndexOutOfBoundsException("no such door");
        }
        if (readBuffer() < bufferLength || !reader.closesNumber()) {
            throw new IllegalArgumentException("the buffer does not tell a poem");
        }
        history.save(board);
        bufferLength = 0;
        board.emptyDoor(door);
        return putPoem(door);
    }

    public int write(int door) throws IndexOutOfBoundsException {
        if (!isDoor(door)) {
            throw new IndexOutOfBoundsException("no such door");
        }
        if (textLength(door) > MOST_CODES) {
            return NONE;
        }
        bufferLength = 0;
        for (int line = 0; line < LINES_OF_DOOR; line++) {
            addLine(lineNumber(door, line));
        }
        return bufferLength;
    }

    public int keep(int slot) throws IllegalArgumentException {
        if (!isSlot(slot)) {
            throw new IllegalArgumentException("slot is out of range");
        }
        Board snapshot = slots[slot];
        if (snapshot != null) {
            snapshot.copyFrom(board);
            kept[slot] = true;
        }
        return board.bagToldByWords();
    }

    public int goBack(int slot) throws IllegalArgumentException, IllegalStateException {
        if (!isSlot(slot)) {
            throw new IllegalArgumentException("slot is out of range");
        }
        Board snapshot = slots[slot];
        if (snapshot == null || !kept[slot]) {
            throw new IllegalStateException("there is no snapshot in the slot");
        }
        history.save(board);
        board.copyFrom(snapshot);
        return board.bagToldByWords();
    }

    public int undo() throws IllegalStateException {
        if (history.size < 1) {
            throw new IllegalStateException("there is no saved state");
        }
        history.restore(board);
        return history.size;
    }

    // ---- looks; nothing is changed

    public int wordOf(int word, int what) throws IndexOutOfBoundsException, IllegalArgumentException {
        if (!isWord(word)) {
            throw new IndexOutOfBoundsException("no such word");
        }
        if (what < 0 || what >= WORD_PROPERTIES) {
            throw new IllegalArgumentException("what is not 0 to 6");
        }
        return board.wordProperty(word, what);
    }

    public int at(int door, int line, int place) throws IndexOutOfBoundsException {
        if (!isLine(door, line) || place < 0 || place >= PLACES) {
            throw new IndexOutOfBoundsException("no such door, line or place");
        }
        return board.wordAt(lineNumber(door, line), place);
    }

    public int lineOf(int door, int line, int what)
            throws IndexOutOfBoundsException, IllegalArgumentException {
        if (!isLine(door, line)) {
            throw new IndexOutOfBoundsException("no such door or line");
        }
        if (what < 0 || what >= LINE_PROPERTIES) {
            throw new IllegalArgumentException("what is not 0 to 7");
        }
        return board.lineProperty(lineNumber(door, line), what);
    }

    public int doorOf(int door, int what) throws IndexOutOfBoundsException, IllegalArgumentException {
        if (!isDoor(door)) {
            throw new IndexOutOfBoundsException("no such door");
        }
        if (what < 0 || what >= DOOR_PROPERTIES) {
            throw new IllegalArgumentException("what is not 0 to 4");
        }
        return board.doorProperty(door, what);
    }

    public int count(int what) throws IllegalArgumentException {
        if (what < 0 || what >= COUNTS) {
            throw new IllegalArgumentException("what is not 0 to 8");
        }
        return numberOf(what);
    }

    public int setting(int setting) throws IndexOutOfBoundsException {
        if (!isSetting(setting)) {
            throw new IndexOutOfBoundsException("no such setting");
        }
        return board.settingValue(setting);
    }

    // ---- what would be; nothing is changed, and the limit of nights does not matter

    public int whyNot(int word, int door, int line, int place) throws IndexOutOfBoundsException {
        if (!isWord(word) || !isPlaceToPut(door, line, place)) {
            throw new IndexOutOfBoundsException("no such word, door, line or place");
        }
        int target = lineNumber(door, line);
        return board.homeOf(word) == target ? NONE : board.refusal(word, target, place);
    }

    public int bestWord(int door, int line) throws IndexOutOfBoundsException {
        if (!isLine(door, line)) {
            throw new IndexOutOfBoundsException("no such door or line");
        }
        return board.bestWordFor(lineNumber(door, line));
    }

    public int prey() {
        return board.nextPrey();
    }

    public int ifSlept(int nights, int door) throws IndexOutOfBoundsException, IllegalArgumentException {
        if (!isDoor(door)) {
            throw new IndexOutOfBoundsException("no such door");
        }
        if (!isNights(nights)) {
            throw new IllegalArgumentException("nights is out of range");
        }
        dream.copyFrom(board);
        dream.passNights(nights);
        return dream.worthOfDoor(door);
    }

    public double shownShare() {
        return share();
    }

    public long digest() {
        dream.copyFrom(board);
        dream.passNights(DIGEST_NIGHTS);
        long hash = DIGEST_START;
        for (int what = 0; what < COUNTS; what++) {
            hash = mix(hash, numberOf(what));
        }
        for (int setting = 0; setting < SETTINGS; setting++) {
            hash = mix(hash, board.settingValue(setting));
        }
        for (int word = 0; word < WORDS; word++) {
            for (int what = FIRST_PLACE_PROPERTY; what < WORD_PROPERTIES; what++) {
                hash = mix(hash, board.wordProperty(word, what));
            }
        }
        for (int door = 0; door < DOORS; door++) {
            hash = mixDoor(hash, door);
        }
        hash = mix(hash, board.nextPrey());
        hash = mix(hash, bitsOf(share()));
        for (int slot = 0; slot < kept.length; slot++) {
            hash = mix(hash, kept[slot] ? 1 : 0);
        }
        hash = mix(hash, bufferLength);
        for (int i = 0; i < bufferLength && i < buffer.length; i++) {
            hash = mix(hash, buffer[i]);
        }
        return hash;
    }

    // ---- parts of the hash

    private static long mix(long hash, long value) {
        return DIGEST_FACTOR * hash + value;
    }

    /** Mixes a door in, while the dream holds the nights that digest() asks for. */
    private long mixDoor(long start, int door) {
        long hash = start;
        for (int what = 0; what < DOOR_PROPERTIES; what++) {
            hash = mix(hash, board.doorProperty(door, what));
        }
        for (int i = 0; i < LINES_OF_DOOR; i++) {
            int line = lineNumber(door, i);
            for (int place = 0; place < PLACES; place++) {
                hash = mix(hash, board.wordAt(line, place));
            }
            for (int what = 0; what < LINE_PROPERTIES; what++) {
                hash = mix(hash, board.lineProperty(line, what));
            }
            hash = mix(hash, board.bestWordFor(line));
        }
        return mix(hash, dream.worthOfDoor(door));
    }

    /** The bits of a double from 0 to 1; written out, as Double is not in the library of this program. */
    private static long bitsOf(double value) {
        if (value <= 0.0) {
            return 0L;
        }
        double fraction = value;
        long exponent = EXPONENT_OF_ONE;
        while (fraction < 1.0 && exponent > 1L) {
            fraction = fraction * 2.0;
            exponent--;
        }
        return exponent * UNITS_OF_FRACTION + (long) ((fraction - 1.0) * (double) UNITS_OF_FRACTION);
    }

    private double share() {
        return (double) (WORDS - board.bagToldByWords()) / (double) WORDS;
    }

    private int numberOf(int what) {
        switch (what) {
            case 0:
                return board.bagToldByWords();
            case 1:
                return board.bagToldByLines();
            case 2:
                return board.nights;
            case 3:
                return board.stolen;
            case 4:
                return board.shown;
            case 5:
                return board.refused;
            case 6:
                return board.loans();
            case 7:
                return board.worthOfAll();
            default:
                return history.size;
        }
    }

    // ---- the buffer

    private void addCode(int code) {
        if (bufferLength >= 0 && bufferLength < buffer.length) {
            buffer[bufferLength] = code;
            bufferLength++;
        }
    }

    /** Lets the reader read the buffer; answers where it stopped, the length if nowhere. */
    private int readBuffer() {
        reader.restart();
        for (int i = 0; i < bufferLength && i < buffer.length; i++) {
            if (!reader.takes(buffer[i])) {
                return i;
            }
        }
        return bufferLength;
    }

    private int putPoem(int door) {
        int puts = 0;
        while (puts < reader.found) {
            int word = reader.wordTold(puts);
            int line = lineNumber(door, reader.lineTold(puts));
            int place = board.sizeOf(line);
            if (!board.isInBag(word) || board.refusal(word, line, place) != STANDS) {
                break;
            }
            board.insertWord(word, line, place);
            puts++;
        }
        board.shown += puts;
        return puts;
    }

    private int textLength(int door) {
        int length = 0;
        for (int i = 0; i < LINES_OF_DOOR; i++) {
            int line = lineNumber(door, i);
            for (int place = 0; place < board.sizeOf(line); place++) {
                int separator = length == 0 ? 0 : 1;
                length += separator + (board.wordAt(line, place) < 10 ? 1 : 2);
            }
        }
        return length;
    }

    private void addLine(int line) {
        for (int place = 0; place < board.sizeOf(line); place++) {
            if (place > 0) {
                addCode(',');
            } else if (bufferLength > 0) {
                addCode('/');
            }
            addNumber(board.wordAt(line, place));
        }
    }

    private void addNumber(int number) {
        if (number >= 10) {
            addCode('0' + number / 10);
        }
        addCode('0' + number % 10);
    }

    // ---- numbers that the face is given

    private static boolean isWord(int word) {
        return word >= 0 && word < WORDS;
    }

    private static boolean isDoor(int door) {
        return door >= 0 && door < DOORS;
    }

    private static boolean isLine(int door, int line) {
        return isDoor(door) && line >= 0 && line < LINES_OF_DOOR;
    }

    private boolean isPlaceToPut(int door, int line, int place) {
        return isLine(door, line) && place >= 0 && place <= board.sizeOf(lineNumber(door, line));
    }

    private static boolean isNights(int nights) {
        return nights >= 1 && nights <= MOST_NIGHTS_AT_ONCE;
    }

    private static boolean isSetting(int setting) {
        return setting >= 0 && setting < SETTINGS;
    }

    private static boolean isSlot(int slot) {
        return slot >= 0 && slot < SLOTS;
    }

    private static int greatestOf(int setting) {
        switch (setting) {
            case JOINTS_SETTING:
                return 1;
            case RICH_SETTING:
                return 200;
            default:
                return 9;
        }
    }

    // ---- words and lines by their numbers

    private static int kindOf(int word) {
        return word % KINDS;
    }

    private static int endingOf(int word) {
        return word / KINDS % ENDINGS;
    }

    private static int beatsOf(int word) {
        return word % 3 + 1;
    }

    private static boolean clash(int left, int right) {
        return kindOf(left) == kindOf(right) && kindOf(left) != COLOUR;
    }

    /** Inside, the lines of all doors are numbered on from door to door, so that one number tells a line. */
    private static int lineNumber(int door, int line) {
        return door * LINES_OF_DOOR + line;
    }

    private static int lineCode(int line) {
        return line == NONE ? NONE : 10 * (line / LINES_OF_DOOR) + line % LINES_OF_DOOR;
    }

    // ---- rows whose index is looked at here, once for all

    private static int cell(int[] row, int index) {
        return index >= 0 && index < row.length ? row[index] : NONE;
    }

    private static void setCell(int[] row, int index, int value) {
        if (index >= 0 && index < row.length) {
            row[index] = value;
        }
    }

    private static void copyRow(int[] from, int[] to) {
        for (int i = 0; i < from.length && i < to.length; i++) {
            to[i] = from[i];
        }
    }

    private static void fillRow(int[] row, int value) {
        for (int i = 0; i < row.length; i++) {
            row[i] = value;
        }
    }

    /**
     * All that a snapshot holds. Where a word is stands in it twice, by words (homes) and by lines
     * (words, sizes), as the document tells the bag both ways.
     */
    private static final class Board {
        private final int[] homes = new int[WORDS];
        private final int[] words = new int[LINES * PLACES];
        private final int[] sizes = new int[LINES];
        private final int[] lenders = new int[LINES];
        private final int[] borrowers = new int[LINES];
        private final int[] thefts = new int[WORDS];
        private final int[] watches = new int[DOORS];
        private final int[] losses = new int[DOORS];
        private final int[] settings = new int[SETTINGS];
        private int nights;
        private int stolen;
        private int shown;
        private int refused;

        Board() {
            fillRow(homes, NONE);
            fillRow(words, NONE);
            fillRow(lenders, NONE);
            fillRow(borrowers, NONE);
            setCell(settings, RICH_SETTING, RICH_AT_FIRST);
            setCell(settings, WATCH_SETTING, WATCH_AT_FIRST);
        }

        void copyFrom(Board other) {
            copyRow(other.homes, homes);
            copyRow(other.words, words);
            copyRow(other.sizes, sizes);
            copyRow(other.lenders, lenders);
            copyRow(other.borrowers, borrowers);
            copyRow(other.thefts, thefts);
            copyRow(other.watches, watches);
            copyRow(other.losses, losses);
            copyRow(other.settings, settings);
            nights = other.nights;
            stolen = other.stolen;
            shown = other.shown;
            refused = other.refused;
        }

        // ---- where the words are

        int homeOf(int word) {
            return cell(homes, word);
        }

        boolean isInBag(int word) {
            return cell(homes, word) == NONE;
        }

        int sizeOf(int line) {
            return cell(sizes, line);
        }

        int wordAt(int line, int place) {
            int index = line * PLACES + place;
            boolean isThere = place >= 0 && place < PLACES && index >= 0 && index < words.length;
            return isThere ? words[index] : NONE;
        }

        void setWordAt(int line, int place, int word) {
            if (place >= 0 && place < PLACES) {
                setCell(words, line * PLACES + place, word);
            }
        }

        int placeOf(int word) {
            int line = cell(homes, word);
            for (int place = 0; place < cell(sizes, line); place++) {
                if (wordAt(line, place) == word) {
                    return place;
                }
            }
            return NONE;
        }

        int bagToldByWords() {
            int number = 0;
            for (int word = 0; word < homes.length; word++) {
                if (homes[word] == NONE) {
                    number++;
                }
            }
            return number;
        }

        int bagToldByLines() {
            int number = WORDS;
            for (int line = 0; line < sizes.length; line++) {
                number -= sizes[line];
            }
            return number;
        }

        int wordsOfDoor(int door) {
            int number = 0;
            for (int i = 0; i < LINES_OF_DOOR; i++) {
                number += cell(sizes, lineNumber(door, i));
            }
            return number;
        }

        void insertWord(int word, int line, int place) {
            int size = cell(sizes, line);
            for (int i = size; i > place; i--) {
                setWordAt(line, i, wordAt(line, i - 1));
            }
            setWordAt(line, place, word);
            setCell(sizes, line, size + 1);
            setCell(homes, word, line);
            endLoansOf(line, place == size);
        }

        void removeWord(int word) {
            int line = cell(homes, word);
            int place = placeOf(word);
            if (place == NONE) {
                return;
            }
            int last = cell(sizes, line) - 1;
            for (int i = place; i < last; i++) {
                setWordAt(line, i, wordAt(line, i + 1));
            }
            setWordAt(line, last, NONE);
            setCell(sizes, line, last);
            setCell(homes, word, NONE);
            endLoansOf(line, place == last);
        }

        int emptyDoor(int door) {
            int number = 0;
            for (int word = 0; word < homes.length; word++) {
                if (homes[word] != NONE && homes[word] / LINES_OF_DOOR == door) {
                    removeWord(word);
                    number++;
                }
            }
            return number;
        }

        // ---- why a word cannot stand

        int refusal(int word, int line, int place) {
            int size = cell(sizes, line);
            if (size >= PLACES) {
                return LINE_IS_FULL;
            }
            if (beatsOn(line) + beatsOf(word) > MOST_BEATS) {
                return TOO_MANY_BEATS;
            }
            if (wouldClash(word, line, place)) {
                return SAME_KINDS;
            }
            boolean atEnd = place == 0 || place == size;
            if (kindOf(word) == JOINT && atEnd && cell(settings, JOINTS_SETTING) == 1) {
                return JOINT_AT_END;
            }
            return STANDS;
        }

        private boolean wouldClash(int word, int line, int place) {
            int size = cell(sizes, line);
            int left = NONE;
            for (int i = 0; i <= size; i++) {
                int right = i == place ? word : wordAt(line, i < place ? i : i - 1);
                if (i > 0 && clash(left, right)) {
                    return true;
                }
                left = right;
            }
            return false;
        }

        private boolean clashes(int line) {
            for (int place = 1; place < cell(sizes, line); place++) {
                if (clash(wordAt(line, place - 1), wordAt(line, place))) {
                    return true;
                }
            }
            return false;
        }

        // ---- poems

        int beatsOn(int line) {
            int beats = 0;
            for (int place = 0; place < cell(sizes, line); place++) {
                beats += beatsOf(wordAt(line, place));
            }
            return beats;
        }

        /** The worth of a line as it would be with one word more, or as it is, with NONE. */
        int worthOfLine(int line, int more) {
            int size = cell(sizes, line);
            int beats = 0;
            boolean thing = false;
            boolean deed = false;
            for (int place = 0; place <= size; place++) {
                int word = place < size ? wordAt(line, place) : more;
                if (word != NONE) {
                    beats += beatsOf(word);
                    thing = thing || kindOf(word) == THING;
                    deed = deed || kindOf(word) == DEED;
                }
            }
            return beats + (thing && deed ? THING_AND_DEED_WORTH : 0)
                    + (beats == PERFECT_BEATS ? PERFECT_BEATS_WORTH : 0);
        }

        int endingOn(int line) {
            int lender = cell(lenders, line);
            int source = lender == NONE ? line : lender;
            int last = wordAt(source, cell(sizes, source) - 1);
            return last == NONE ? NONE : endingOf(last);
        }

        /** How many other lines of the line's door it would rhyme with, if it had this ending. */
        int rhymesOf(int line, int ending) {
            if (ending == NONE) {
                return 0;
            }
            int door = line / LINES_OF_DOOR;
            int rhymes = 0;
            for (int i = 0; i < LINES_OF_DOOR; i++) {
                int other = lineNumber(door, i);
                if (other != line && endingOn(other) == ending) {
                    rhymes++;
                }
            }
            return rhymes;
        }

        int rhymesOfDoor(int door) {
            int pairs = 0;
            for (int i = 1; i < LINES_OF_DOOR; i++) {
                int ending = endingOn(lineNumber(door, i));
                for (int k = 0; k < i && ending != NONE; k++) {
                    if (endingOn(lineNumber(door, k)) == ending) {
                        pairs++;
                    }
                }
            }
            return pairs;
        }

        int worthOfDoor(int door) {
            int worth = RHYME_WORTH * rhymesOfDoor(door);
            for (int i = 0; i < LINES_OF_DOOR; i++) {
                worth += worthOfLine(lineNumber(door, i), NONE);
            }
            return worth;
        }

        int worthOfAll() {
            int worth = 0;
            for (int door = 0; door < DOORS; door++) {
                worth += worthOfDoor(door);
            }
            return worth;
        }

        int bestWordFor(int line) {
            int best = NONE;
            int bestWorth = NONE;
            int place = cell(sizes, line);
            for (int word = 0; word < homes.length; word++) {
                if (homes[word] == NONE && refusal(word, line, place) == STANDS) {
                    // What the other lines of the door are worth is the same with each word,
                    // and a line that gets a word has its own ending.
                    int worth = worthOfLine(line, word) + RHYME_WORTH * rhymesOf(line, endingOf(word));
                    if (worth > bestWorth) {
                        best = word;
                        bestWorth = worth;
                    }
                }
            }
            return best;
        }

        // ---- endings lent

        boolean borrows(int line) {
            return cell(lenders, line) != NONE;
        }

        boolean isFreeForLoan(int line) {
            return cell(sizes, line) > 0 && cell(lenders, line) == NONE && cell(borrowers, line) == NONE;
        }

        int loans() {
            int number = 0;
            for (int line = 0; line < lenders.length; line++) {
                if (lenders[line] != NONE) {
                    number++;
                }
            }
            return number;
        }

        void startLoan(int borrower, int lender) {
            setCell(lenders, borrower, lender);
            setCell(borrowers, lender, borrower);
        }

        void endLoan(int borrower) {
            int lender = cell(lenders, borrower);
            setCell(lenders, borrower, NONE);
            setCell(borrowers, lender, NONE);
        }

        /** A line that got or lost a word keeps no borrowed ending, and lends on only with its last word. */
        private void endLoansOf(int line, boolean lastWordChanged) {
            endLoan(line);
            if (lastWordChanged) {
                endLoan(cell(borrowers, line));
            }
        }

        // ---- nights

        int passNights(int number) {
            int before = stolen;
            for (int night = 0; night < number; night++) {
                int door = doorOfThief();
                nights++;
                watchOneNightFewer();
                if (door != NONE) {
                    steal(preyOn(door), door);
                }
            }
            return stolen - before;
        }

        int nextPrey() {
            int door = doorOfThief();
            return door == NONE ? NONE : preyOn(door);
        }

        private int doorOfThief() {
            int richest = NONE;
            int most = NONE;
            for (int door = 0; door < watches.length; door++) {
                if (watches[door] == 0 && wordsOfDoor(door) > 0) {
                    int worth = worthOfDoor(door);
                    if (worth > most) {
                        richest = door;
                        most = worth;
                    }
                }
            }
            return most >= cell(settings, RICH_SETTING) ? richest : NONE;
        }

        private int preyOn(int door) {
            int prey = NONE;
            int most = 0;
            for (int i = LINES_OF_DOOR - 1; i >= 0; i--) {
                int line = lineNumber(door, i);
                for (int place = 0; place < cell(sizes, line); place++) {
                    int word = wordAt(line, place);
                    if (beatsOf(word) > most) {
                        prey = word;
                        most = beatsOf(word);
                    }
                }
            }
            return prey;
        }

        private void watchOneNightFewer() {
            for (int door = 0; door < watches.length; door++) {
                if (watches[door] > 0) {
                    watches[door]--;
                }
            }
        }

        private void steal(int word, int door) {
            removeWord(word);
            stolen++;
            setCell(thefts, word, cell(thefts, word) + 1);
            setCell(losses, door, cell(losses, door) + 1);
            setCell(watches, door, cell(settings, WATCH_SETTING));
        }

        // ---- settings

        int settingValue(int setting) {
            return cell(settings, setting);
        }

        void changeSetting(int setting, int value) {
            setCell(settings, setting, value);
        }

        // ---- properties

        int wordProperty(int word, int what) {
            int home = cell(homes, word);
            switch (what) {
                case 0:
                    return kindOf(word);
                case 1:
                    return endingOf(word);
                case 2:
                    return beatsOf(word);
                case 3:
                    return home == NONE ? NONE : home / LINES_OF_DOOR;
                case 4:
                    return home == NONE ? NONE : home % LINES_OF_DOOR;
                case 5:
                    return placeOf(word);
                default:
                    return cell(thefts, word);
            }
        }

        int lineProperty(int line, int what) {
            switch (what) {
                case 0:
                    return cell(sizes, line);
                case 1:
                    return beatsOn(line);
                case 2:
                    return worthOfLine(line, NONE);
                case 3:
                    return endingOn(line);
                case 4:
                    return lineCode(cell(lenders, line));
                case 5:
                    return lineCode(cell(borrowers, line));
                case 6:
                    return rhymesOf(line, endingOn(line));
                default:
                    return clashes(line) ? 0 : 1;
            }
        }

        int doorProperty(int door, int what) {
            switch (what) {
                case 0:
                    return worthOfDoor(door);
                case 1:
                    return wordsOfDoor(door);
                case 2:
                    return rhymesOfDoor(door);
                case 3:
                    return cell(watches, door);
                default:
                    return cell(losses, door);
            }
        }
    }

    /** The saved states in a ring, so that dropping the oldest one moves no other. */
    private static final class History {
        private final Board[] states = new Board[MOST_SAVED];
        private int oldest;
        private int size;

        History() {
            for (int i = 0; i < states.length; i++) {
                states[i] = new Board();
            }
        }

        void save(Board board) {
            if (size >= MOST_SAVED) {
                oldest = (oldest + 1) % MOST_SAVED;
                size--;
            }
            Board next = stateAt(size);
            if (next != null) {
                next.copyFrom(board);
                size++;
            }
        }

        void restore(Board board) {
            Board latest = stateAt(size - 1);
            if (latest != null) {
                board.copyFrom(latest);
                size--;
            }
        }

        private Board stateAt(int age) {
            int index = (oldest + age) % MOST_SAVED;
            return age >= 0 && index >= 0 && index < states.length ? states[index] : null;
        }
    }

    /** Reads a poem as a text, one character after the other, and notes the words that it tells. */
    private static final class PoemReader {
        private final boolean[] told = new boolean[WORDS];
        private final int[] words = new int[WORDS_OF_DOOR];
        private final int[] lines = new int[WORDS_OF_DOOR];
        private int found;
        private int line;
        private int wordsOnLine;
        private int number;

        void restart() {
            for (int i = 0; i < told.length; i++) {
                told[i] = false;
            }
            found = 0;
            line = 0;
            wordsOnLine = 0;
            number = NONE;
        }

        int wordTold(int index) {
            return cell(words, index);
        }

        int lineTold(int index) {
            return cell(lines, index);
        }

        /** Whether a poem begins with all characters so far and this one. */
        boolean takes(int code) {
            if (code >= '0' && code <= '9') {
                return takesDigit(code - '0');
            }
            if (code == ',') {
                return wordsOnLine < PLACES - 1 && closesNumber();
            }
            if (code != '/' || line >= LINES_OF_DOOR - 1 || !closesNumber()) {
                return false;
            }
            line++;
            wordsOnLine = 0;
            return true;
        }

        /** Whether the number so far can end here; if so, its word is told. */
        boolean closesNumber() {
            if (!isFree(number) || found < 0 || found >= WORDS_OF_DOOR) {
                return false;
            }
            setTold(number);
            setCell(words, found, number);
            setCell(lines, found, line);
            found++;
            wordsOnLine++;
            number = NONE;
            return true;
        }

        private boolean takesDigit(int digit) {
            int longer = number == NONE ? digit : 10 * number + digit;
            boolean fits = number == NONE ? canBegin(digit) : number != 0 && isFree(longer);
            if (fits) {
                number = longer;
            }
            return fits;
        }

        /** A number that is told already may still begin a longer one that is not. */
        private boolean canBegin(int digit) {
            if (isFree(digit)) {
                return true;
            }
            boolean can = false;
            for (int next = 0; next < 10 && digit > 0; next++) {
                can = can || isFree(10 * digit + next);
            }
            return can;
        }

        private boolean isFree(int word) {
            return word >= 0 && word < told.length && !told[word];
        }

        private void setTold(int word) {
            if (word >= 0 && word < told.length) {
                told[word] = true;
            }
        }
    }
}
