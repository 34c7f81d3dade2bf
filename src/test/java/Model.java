import java.util.ArrayDeque;
import java.util.ArrayList;
import java.util.Arrays;
import java.util.Deque;
import java.util.HashSet;
import java.util.List;
import java.util.Set;
import java.util.TreeMap;

/**
 * The document a second time, in lists and maps and by its plainest words (a loan is ended by looking at
 * the lines before and behind a step; the best word is found by putting each; a syntax error by trying
 * what could follow), so that it shares no way of reckoning with the program.
 */
final class Model {
    static final int NONE = -1;

    private static final class State {
        final List<List<Integer>> lines = new ArrayList<>();
        final TreeMap<Integer, Integer> lenderOf = new TreeMap<>();
        final int[] thefts = new int[40];
        final int[] watched = new int[4];
        final int[] losses = new int[4];
        final int[] settings = {0, 20, 1};
        int nights;
        int stolen;
        int puts;
        int refused;

        State() {
            for (int line = 0; line < 16; line++) {
                lines.add(new ArrayList<>());
            }
        }

        State copy() {
            State copy = new State();
            for (int line = 0; line < 16; line++) {
                copy.lines.get(line).addAll(lines.get(line));
            }
            copy.lenderOf.putAll(lenderOf);
            System.arraycopy(thefts, 0, copy.thefts, 0, 40);
            System.arraycopy(watched, 0, copy.watched, 0, 4);
            System.arraycopy(losses, 0, copy.losses, 0, 4);
            System.arraycopy(settings, 0, copy.settings, 0, 3);
            copy.nights = nights;
            copy.stolen = stolen;
            copy.puts = puts;
            copy.refused = refused;
            return copy;
        }

        int home(int word) {
            for (int line = 0; line < 16; line++) {
                if (lines.get(line).contains(word)) {
                    return line;
                }
            }
            return NONE;
        }

        static int last(List<Integer> line) {
            return line.isEmpty() ? NONE : line.get(line.size() - 1);
        }

        void step(Runnable change) {
            State before = copy();
            change.run();
            for (int borrower : new ArrayList<>(lenderOf.keySet())) {
                int lender = lenderOf.get(borrower);
                boolean changed = !lines.get(borrower).equals(before.lines.get(borrower));
                if (changed || last(lines.get(lender)) != last(before.lines.get(lender))) {
                    lenderOf.remove(borrower);
                }
            }
        }

        int reason(int word, int line, int place) {
            List<Integer> would = new ArrayList<>(lines.get(line));
            if (would.size() == 6) {
                return 1;
            }
            would.add(place, word);
            if (beats(would) > 12) {
                return 2;
            }
            if (!tidy(would)) {
                return 3;
            }
            boolean end = would.indexOf(word) == 0 || last(would) == word;
            return kind(word) == 3 && settings[0] == 1 && end ? 4 : 0;
        }

        int ending(int line) {
            if (lines.get(line).isEmpty()) {
                return NONE;
            }
            return endingOfWord(last(lines.get(lenderOf.getOrDefault(line, line))));
        }

        boolean rhyme(int a, int b) {
            return !lines.get(a).isEmpty() && !lines.get(b).isEmpty() && ending(a) == ending(b);
        }

        int pairs(int door) {
            int pairs = 0;
            for (int a = 4 * door; a < 4 * door + 4; a++) {
                for (int b = a + 1; b < 4 * door + 4; b++) {
                    pairs += rhyme(a, b) ? 1 : 0;
                }
            }
            return pairs;
        }

        int worth(int door) {
            int worth = 4 * pairs(door);
            for (int line = 4 * door; line < 4 * door + 4; line++) {
                worth += worthOf(lines.get(line));
            }
            return worth;
        }

        int wordsOn(int door) {
            int words = 0;
            for (int line = 4 * door; line < 4 * door + 4; line++) {
                words += lines.get(line).size();
            }
            return words;
        }

        int robbed() {
            int robbed = NONE;
            for (int door = 3; door >= 0; door--) {
                if (wordsOn(door) > 0 && watched[door] == 0
                        && (robbed == NONE || worth(door) >= worth(robbed))) {
                    robbed = door;
                }
            }
            return robbed != NONE && worth(robbed) >= settings[1] ? robbed : NONE;
        }

        int prey() {
            int door = robbed();
            int prey = NONE;
            if (door != NONE) {
                for (int beats = 3; beats > 0 && prey == NONE; beats--) {
                    for (int line = 4 * door + 3; line >= 4 * door && prey == NONE; line--) {
                        for (int word : lines.get(line)) {
                            prey = prey == NONE && beatsOfWord(word) == beats ? word : prey;
                        }
                    }
                }
            }
            return prey;
        }

        void night() {
            int door = robbed();
            int prey = prey();
            nights++;
            for (int other = 0; other < 4; other++) {
                watched[other] = Math.max(0, watched[other] - 1);
            }
            if (prey != NONE) {
                step(() -> lines.get(home(prey)).remove((Integer) prey));
                stolen++;
                thefts[prey]++;
                losses[door]++;
                watched[door] = settings[2];
            }
        }
    }

    private State now = new State();
    private final Deque<State> saved = new ArrayDeque<>();
    private final State[] slots = new State[2];
    private String buffer = "";

    static int kind(int word) {
        return word % 4;
    }

    static int endingOfWord(int word) {
        return (word / 4) % 5;
    }

    static int beatsOfWord(int word) {
        return (word % 3) + 1;
    }

    static int beats(List<Integer> line) {
        int beats = 0;
        for (int word : line) {
            beats += beatsOfWord(word);
        }
        return beats;
    }

    static boolean tidy(List<Integer> line) {
        for (int i = 1; i < line.size(); i++) {
            if (kind(line.get(i - 1)) == kind(line.get(i)) && kind(line.get(i)) != 2) {
                return false;
            }
        }
        return true;
    }

    static int worthOf(List<Integer> line) {
        Set<Integer> kinds = new HashSet<>();
        for (int word : line) {
            kinds.add(kind(word));
        }
        int worth = beats(line);
        worth += kinds.contains(0) && kinds.contains(1) ? 5 : 0;
        worth += beats(line) == 8 ? 3 : 0;
        return worth;
    }

    private void save() {
        saved.addLast(now.copy());
        if (saved.size() > 6) {
            saved.removeFirst();
        }
    }

    private static void index(boolean holds) {
        if (!holds) {
            throw new IndexOutOfBoundsException();
        }
    }

    private static void argument(boolean holds) {
        if (!holds) {
            throw new IllegalArgumentException();
        }
    }

    private static void state(boolean holds) {
        if (!holds) {
            throw new IllegalStateException();
        }
    }

    private static boolean in(int number, int low, int high) {
        return low <= number && number <= high;
    }

    private static boolean isLine(int door, int line) {
        return in(door, 0, 3) && in(line, 0, 3);
    }

    int put(int word, int door, int line, int place) {
        index(in(word, 0, 39) && isLine(door, line));
        index(in(place, 0, now.lines.get(4 * door + line).size()));
        state(now.home(word) == NONE);
        save();
        int reason = now.reason(word, 4 * door + line, place);
        if (reason == 0) {
            now.step(() -> now.lines.get(4 * door + line).add(place, word));
            now.puts++;
        } else {
            now.refused++;
        }
        return reason;
    }

    int takeOff(int word) {
        index(in(word, 0, 39));
        int home = now.home(word);
        state(home != NONE);
        save();
        now.step(() -> now.lines.get(home).remove((Integer) word));
        return 10 * (home / 4) + home % 4;
    }

    int move(int word, int door, int line) {
        index(in(word, 0, 39) && isLine(door, line));
        int home = now.home(word);
        int target = 4 * door + line;
        state(home != NONE && home != target);
        save();
        int reason = now.reason(word, target, now.lines.get(target).size());
        if (reason == 0) {
            now.step(() -> {
                now.lines.get(home).remove((Integer) word);
                now.lines.get(target).add(word);
            });
            now.puts++;
        } else {
            now.refused++;
        }
        return reason;
    }

    private int bare(int door) {
        int words = now.wordsOn(door);
        now.step(() -> {
            for (int line = 4 * door; line < 4 * door + 4; line++) {
                now.lines.get(line).clear();
            }
        });
        return words;
    }

    int clearDoor(int door) {
        index(in(door, 0, 3));
        save();
        return bare(door);
    }

    private boolean canTrade(int line) {
        return !now.lines.get(line).isEmpty() && !now.lenderOf.containsKey(line)
                && !now.lenderOf.containsValue(line);
    }

    int borrow(int door, int line, int fromDoor, int fromLine) {
        index(isLine(door, line) && isLine(fromDoor, fromLine));
        argument(door != fromDoor);
        state(canTrade(4 * door + line) && canTrade(4 * fromDoor + fromLine));
        save();
        now.lenderOf.put(4 * door + line, 4 * fromDoor + fromLine);
        return now.ending(4 * fromDoor + fromLine);
    }

    int bringBack(int door, int line) {
        index(isLine(door, line));
        state(now.lenderOf.containsKey(4 * door + line));
        save();
        now.lenderOf.remove(4 * door + line);
        return now.ending(4 * door + line);
    }

    int sleep(int nights) {
        argument(in(nights, 1, 20));
        state(now.nights + nights <= 9999);
        save();
        int before = now.stolen;
        for (int night = 0; night < nights; night++) {
            now.night();
        }
        return now.stolen - before;
    }

    int set(int setting, int value) {
        index(in(setting, 0, 2));
        argument(in(value, 0, new int[] {1, 200, 9}[setting]));
        save();
        int previous = now.settings[setting];
        now.settings[setting] = value;
        return previous;
    }

    int append(int code) {
        argument(in(code, 33, 126));
        state(buffer.length() < 60);
        buffer += (char) code;
        return buffer.length();
    }

    int clearBuffer() {
        int length = buffer.length();
        buffer = "";
        return length;
    }

    static boolean isPoem(String text) {
        String number = "([0-9]|[1-3][0-9])";
        String line = number + "(," + number + "){0,5}";
        if (!text.matches(line + "(/" + line + "){0,3}")) {
            return false;
        }
        List<String> words = Arrays.asList(text.split("[,/]"));
        return new HashSet<>(words).size() == words.size();
    }

    private static boolean beginsPoem(String text) {
        boolean begins = isPoem(text);
        for (int number = 0; number < 40 && !begins; number++) {
            begins = isPoem(text + number);
        }
        return begins;
    }

    int firstError() {
        for (int i = 0; i < buffer.length(); i++) {
            if (!beginsPoem(buffer.substring(0, i + 1))) {
                return i;
            }
        }
        return buffer.length();
    }

    int load(int door) {
        index(in(door, 0, 3));
        argument(isPoem(buffer));
        save();
        bare(door);
        String[] lines = buffer.split("/");
        buffer = "";
        int put = 0;
        for (int i = 0; i < lines.length; i++) {
            int line = 4 * door + i;
            for (String text : lines[i].split(",")) {
                int word = Integer.parseInt(text);
                int size = now.lines.get(line).size();
                if (now.home(word) != NONE || now.reason(word, line, size) != 0) {
                    return put;
                }
                now.step(() -> now.lines.get(line).add(word));
                now.puts++;
                put++;
            }
        }
        return put;
    }

    int write(int door) {
        index(in(door, 0, 3));
        List<String> lines = new ArrayList<>();
        for (int line = 4 * door; line < 4 * door + 4; line++) {
            List<String> words = new ArrayList<>();
            for (int word : now.lines.get(line)) {
                words.add(Integer.toString(word));
            }
            if (!words.isEmpty()) {
                lines.add(String.join(",", words));
            }
        }
        String text = String.join("/", lines);
        if (text.length() > 60) {
            return NONE;
        }
        buffer = text;
        return text.length();
    }

    int keep(int slot) {
        argument(in(slot, 0, 1));
        slots[slot] = now.copy();
        return count(0);
    }

    int goBack(int slot) {
        argument(in(slot, 0, 1));
        state(slots[slot] != null);
        save();
        now = slots[slot].copy();
        return count(0);
    }

    int undo() {
        state(!saved.isEmpty());
        now = saved.removeLast();
        return saved.size();
    }

    int wordOf(int word, int what) {
        index(in(word, 0, 39));
        argument(in(what, 0, 6));
        int home = now.home(word);
        int place = home == NONE ? NONE : now.lines.get(home).indexOf(word);
        return new int[] {kind(word), endingOfWord(word), beatsOfWord(word), home == NONE ? NONE : home / 4,
            home == NONE ? NONE : home % 4, place, now.thefts[word]}[what];
    }

    int at(int door, int line, int place) {
        index(isLine(door, line) && in(place, 0, 5));
        List<Integer> words = now.lines.get(4 * door + line);
        return place < words.size() ? words.get(place) : NONE;
    }

    private static int code(int line) {
        return 10 * (line / 4) + line % 4;
    }

    int lineOf(int door, int line, int what) {
        index(isLine(door, line));
        argument(in(what, 0, 7));
        int number = 4 * door + line;
        List<Integer> words = now.lines.get(number);
        int lender = now.lenderOf.containsKey(number) ? code(now.lenderOf.get(number)) : NONE;
        int borrower = NONE;
        for (int other : now.lenderOf.keySet()) {
            borrower = now.lenderOf.get(other) == number ? code(other) : borrower;
        }
        int rhymes = 0;
        for (int other = 4 * door; other < 4 * door + 4; other++) {
            rhymes += other != number && now.rhyme(number, other) ? 1 : 0;
        }
        return new int[] {words.size(), beats(words), worthOf(words), now.ending(number), lender, borrower,
            rhymes, tidy(words) ? 1 : 0}[what];
    }

    int doorOf(int door, int what) {
        index(in(door, 0, 3));
        argument(in(what, 0, 4));
        return new int[] {now.worth(door), now.wordsOn(door), now.pairs(door), now.watched[door],
            now.losses[door]}[what];
    }

    int count(int what) {
        argument(in(what, 0, 8));
        int bag = 40;
        int worth = 0;
        for (int door = 0; door < 4; door++) {
            bag -= now.wordsOn(door);
            worth += now.worth(door);
        }
        return new int[] {bag, bag, now.nights, now.stolen, now.puts, now.refused, now.lenderOf.size(), worth,
            saved.size()}[what];
    }

    int setting(int setting) {
        index(in(setting, 0, 2));
        return now.settings[setting];
    }

    int whyNot(int word, int door, int line, int place) {
        index(in(word, 0, 39) && isLine(door, line));
        index(in(place, 0, now.lines.get(4 * door + line).size()));
        boolean here = now.home(word) == 4 * door + line;
        return here ? NONE : now.reason(word, 4 * door + line, place);
    }

    int bestWord(int door, int line) {
        index(isLine(door, line));
        int number = 4 * door + line;
        int size = now.lines.get(number).size();
        int best = NONE;
        int bestWorth = NONE;
        for (int word = 0; word < 40; word++) {
            if (now.home(word) == NONE && now.reason(word, number, size) == 0) {
                State would = now.copy();
                int added = word;
                would.step(() -> would.lines.get(number).add(added));
                if (would.worth(door) > bestWorth) {
                    best = word;
                    bestWorth = would.worth(door);
                }
            }
        }
        return best;
    }

    int prey() {
        return now.prey();
    }

    int ifSlept(int nights, int door) {
        index(in(door, 0, 3));
        argument(in(nights, 1, 20));
        State would = now.copy();
        for (int night = 0; night < nights; night++) {
            would.night();
        }
        return would.worth(door);
    }

    double shownShare() {
        return (40 - count(0)) / 40.0;
    }

    long digest() {
        List<Long> values = new ArrayList<>();
        for (int what = 0; what < 9; what++) {
            values.add((long) count(what));
        }
        for (int setting = 0; setting < 3; setting++) {
            values.add((long) setting(setting));
        }
        for (int word = 0; word < 40; word++) {
            for (int what = 3; what < 7; what++) {
                values.add((long) wordOf(word, what));
            }
        }
        for (int door = 0; door < 4; door++) {
            for (int what = 0; what < 5; what++) {
                values.add((long) doorOf(door, what));
            }
            for (int line = 0; line < 4; line++) {
                for (int place = 0; place < 6; place++) {
                    values.add((long) at(door, line, place));
                }
                for (int what = 0; what < 8; what++) {
                    values.add((long) lineOf(door, line, what));
                }
                values.add((long) bestWord(door, line));
            }
            values.add((long) ifSlept(3, door));
        }
        values.add((long) prey());
        values.add(Double.doubleToLongBits(shownShare()));
        for (State slot : slots) {
            values.add(slot == null ? 0L : 1L);
        }
        values.add((long) buffer.length());
        for (char code : buffer.toCharArray()) {
            values.add((long) code);
        }
        long hash = 3391;
        for (long value : values) {
            hash = 31 * hash + value;
        }
        return hash;
    }
}
