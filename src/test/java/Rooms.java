/** Rooms that the tests of edges begin with; a word that does not stand as it should ends the test. */
final class Rooms {
    /** The four lines of a door with 24 words, each line with six of them. */
    static final int[][] FULL_DOOR = {
        {0, 9, 6, 3, 12, 21}, {18, 15, 24, 33, 30, 27}, {36, 39, 1, 4, 7, 10}, {13, 16, 19, 22, 25, 28},
    };

    private Rooms() {
    }

    static MagnetPoems bare() {
        return new MagnetPoems();
    }

    /** A poem for each door from the first one on; "" leaves a door as it is. */
    static MagnetPoems with(String... poems) {
        MagnetPoems x = new MagnetPoems();
        for (int door = 0; door < poems.length; door++) {
            if (!poems[door].isEmpty()) {
                load(x, door, poems[door]);
            }
        }
        return x;
    }

    static void load(MagnetPoems x, int door, String poem) {
        type(x, poem);
        stands(poem + " on door " + door, x.load(door) == poem.split("[,/]").length);
    }

    static MagnetPoems line(MagnetPoems x, int door, int line, int... words) {
        for (int word : words) {
            stands("word " + word, x.put(word, door, line, x.lineOf(door, line, 0)) == 0);
        }
        return x;
    }

    static MagnetPoems typed(String text) {
        return type(new MagnetPoems(), text);
    }

    static MagnetPoems type(MagnetPoems x, String text) {
        for (char code : text.toCharArray()) {
            x.append(code);
        }
        return x;
    }

    static MagnetPoems set(MagnetPoems x, int setting, int value) {
        x.set(setting, value);
        return x;
    }

    static MagnetPoems fullDoor(int door) {
        MagnetPoems x = new MagnetPoems();
        for (int line = 0; line < 4; line++) {
            line(x, door, line, FULL_DOOR[line]);
        }
        return x;
    }

    /** All 40 words on doors, two or three on each line. */
    static MagnetPoems emptyBag() {
        MagnetPoems x = new MagnetPoems();
        for (int word = 0; word < 40; word++) {
            line(x, word / 4 % 4, (word + word / 16) % 4, word);
        }
        return x;
    }

    /** Two lines on door 0, with the endings 0 and 1, and two on door 1, with 2 and 3. */
    static MagnetPoems lending() {
        return with("0,1/4,5", "8,9/12,13");
    }

    /** Line 0 of door 0 borrows the ending 3 of line 1 of door 1. */
    static MagnetPoems loan() {
        MagnetPoems x = lending();
        stands("the loan", x.borrow(0, 0, 1, 1) == 3);
        return x;
    }

    /** A line on each of the 16 places for one, with a word each. */
    static MagnetPoems sixteenLines() {
        MagnetPoems x = new MagnetPoems();
        for (int word = 0; word < 16; word++) {
            line(x, word / 4, word % 4, word);
        }
        return x;
    }

    /** Six saved states, a snapshot in each slot, a loan, a watched door and a text; little is as at first. */
    static MagnetPoems livedIn() {
        MagnetPoems x = lending();
        x.keep(0);
        x.set(1, 5);
        x.sleep(2);
        x.borrow(0, 0, 1, 0);
        x.put(18, 2, 3, 0);
        x.keep(1);
        x.put(22, 2, 3, 0);
        x.put(39, 3, 0, 0);
        return type(x, "17,4x");
    }

    static String text(MagnetPoems x, int door) {
        StringBuilder text = new StringBuilder();
        for (int line = 0; line < 4; line++) {
            text.append(line == 0 ? "" : "/");
            for (int place = 0; place < 6 && x.at(door, line, place) != MagnetPoems.NONE; place++) {
                text.append(place == 0 ? "" : ",").append(x.at(door, line, place));
            }
        }
        return text.toString();
    }

    private static void stands(String what, boolean holds) {
        if (!holds) {
            throw new AssertionError(what + " is not as the room needs it");
        }
    }
}
