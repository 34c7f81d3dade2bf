/** Edges of promises 18 to 23: looks, which change nothing. */
public final class LooksEdgesTest extends Edges {
    public static void main(String[] args) {
        run(new LooksEdgesTest());
    }

    private static Room room(String... poems) {
        return () -> Rooms.with(poems);
    }

    /** Each word by its kind, ending and beats, as the document's Terms reckon them. */
    private static final String[] WORDS = {
        "001", "102", "203", "301", "012", "113", "211", "312", "023", "121",
        "222", "323", "031", "132", "233", "331", "042", "143", "241", "342",
        "003", "101", "202", "303", "011", "112", "213", "311", "022", "123",
        "221", "322", "033", "131", "232", "333", "041", "142", "243", "341",
    };

    // ---- promise 18

    void promise18KindEndingAndBeatsOfEachWord() {
        for (int i = 0; i < 40; i++) {
            int word = i;
            for (int k = 0; k < 3; k++) {
                int what = k;
                answers("wordOf " + word + " " + what, WORDS[word].charAt(what) - '0', Rooms::bare,
                        x -> x.wordOf(word, what));
            }
        }
    }

    void promise18DoorLineAndPlace() {
        MagnetPoems x = Rooms.fullDoor(3);
        for (int line = 0; line < 4; line++) {
            for (int place = 0; place < 6; place++) {
                int word = Rooms.FULL_DOOR[line][place];
                due("door of " + word, x.wordOf(word, 3), 3);
                due("line of " + word, x.wordOf(word, 4), line);
                due("place of " + word, x.wordOf(word, 5), place);
            }
        }
        MagnetPoems y = Rooms.sixteenLines();
        for (int word = 0; word < 16; word++) {
            due("door", y.wordOf(word, 3), word / 4);
            due("line", y.wordOf(word, 4), word % 4);
            due("place", y.wordOf(word, 5), 0);
        }
    }

    void promise18NoneInTheBag() {
        for (int i = 3; i < 6; i++) {
            int what = i;
            answers("the first word", NONE, Rooms::bare, x -> x.wordOf(0, what));
            answers("the last word", NONE, Rooms::bare, x -> x.wordOf(39, what));
            answers("taken off", NONE, () -> after(room("0,1"), x -> x.takeOff(0)), x -> x.wordOf(0, what));
            answers("stolen", NONE, Rooms::livedIn, x -> x.wordOf(5, what));
        }
    }

    void promise18HowOftenItWasStolen() {
        answers("once", 1, Rooms::livedIn, x -> x.wordOf(5, 6));
        answers("once, the other", 1, Rooms::livedIn, x -> x.wordOf(8, 6));
        answers("never", 0, Rooms::livedIn, x -> x.wordOf(0, 6));
        answers("never by takeOff", 0, () -> after(room("0"), x -> x.takeOff(0)), x -> x.wordOf(0, 6));
        answers("never by clearDoor", 0, () -> after(room("0"), x -> x.clearDoor(0)), x -> x.wordOf(0, 6));
    }

    void promise18WordOutOfRange() {
        refusesOutside(0, 39, INDEX, Rooms::livedIn, (x, word) -> x.wordOf(word, 0));
    }

    void promise18WhatOutOfRange() {
        refusesOutside(0, 6, ARGUMENT, Rooms::livedIn, (x, what) -> x.wordOf(0, what));
    }

    void promise18NoSuchWordComesBeforeWhat() {
        refuses("above", INDEX, Rooms::livedIn, x -> x.wordOf(40, 7));
        refuses("below", INDEX, Rooms::livedIn, x -> x.wordOf(-1, -1));
    }

    // ---- promise 19

    void promise19FirstAndLastPlace() {
        for (int i = 0; i < 4; i++) {
            int door = i;
            for (int k = 0; k < 4; k++) {
                int line = k;
                answers("the first place", Rooms.FULL_DOOR[line][0], () -> Rooms.fullDoor(door),
                        x -> x.at(door, line, 0));
                answers("the last place", Rooms.FULL_DOOR[line][5], () -> Rooms.fullDoor(door),
                        x -> x.at(door, line, 5));
            }
        }
    }

    void promise19NoneWithoutAWord() {
        for (int place = 0; place < 6; place++) {
            int number = place;
            answers("a bare line", NONE, Rooms::bare, x -> x.at(3, 3, number));
            answers("a line with two words", place < 2 ? place : NONE, room("0,1/2"), x -> x.at(0, 0, number));
        }
        answers("behind a word that was taken off", NONE, () -> after(room("0,1"), x -> x.takeOff(0)),
                x -> x.at(0, 0, 1));
    }

    void promise19DoorOutOfRange() {
        refusesOutside(0, 3, INDEX, Rooms::livedIn, (x, door) -> x.at(door, 0, 0));
    }

    void promise19LineOutOfRange() {
        refusesOutside(0, 3, INDEX, Rooms::livedIn, (x, line) -> x.at(0, line, 0));
        refusesOutside(0, 3, INDEX, Rooms::livedIn, (x, line) -> x.at(1, line, 0));
    }

    void promise19PlaceOutOfRange() {
        refusesOutside(0, 5, INDEX, Rooms::livedIn, (x, place) -> x.at(0, 0, place));
        refusesOutside(0, 5, INDEX, () -> Rooms.fullDoor(1), (x, place) -> x.at(1, 1, place));
    }

    // ---- promise 20

    private void line(String poem, int what, int want) {
        answers("lineOf " + what + " of " + poem, want, room(poem), x -> x.lineOf(0, 0, what));
    }

    void promise20BareLine() {
        int[] bare = {0, 0, 0, NONE, NONE, NONE, 0, 1};
        for (int i = 0; i < 8; i++) {
            int what = i;
            answers("lineOf " + what, bare[what], Rooms::bare, x -> x.lineOf(0, 0, what));
            answers("lineOf " + what + " then", bare[what], () -> after(Rooms::loan, x -> x.clearDoor(0)),
                    x -> x.lineOf(0, 0, what));
        }
    }

    void promise20WordsFromNoneToSix() {
        line("0", 0, 1);
        line("0,9,6,3,12,21", 0, 6);
        line("0,9,6,3,12,21", 1, 6);
        line("5,8,14,2", 1, 12);
    }

    void promise20WorthOfAThingAndADeed() {
        line("0", 2, 1);
        line("1", 2, 2);
        line("0,1", 2, 8);
        line("1,0", 2, 8);
        line("0,2,1", 2, 11);
        line("0,3", 2, 2);
        line("1,6", 2, 3);
        line("2,3", 2, 4);
        line("0,1,4,5", 2, 13 + 3);
    }

    void promise20WorthOfExactlyEightBeats() {
        line("2,14,6", 2, 7);
        line("2,14,10", 2, 8 + 3);
        line("2,14,26", 2, 9);
        line("5,8,1", 2, 8 + 5 + 3);
        line("5,8,21", 2, 7 + 5);
        line("5,8,17", 2, 9 + 5);
        line("5,8,14,2", 2, 12 + 5);
    }

    void promise20EndingOfTheLastWord() {
        line("0,5,8,13,16", 3, 4);
        line("16,13,8,5,0", 3, 0);
        line("39", 3, 4);
        answers("the one that is lent", 3, Rooms::loan, x -> x.lineOf(0, 0, 3));
        answers("its own if it lends", 3, Rooms::loan, x -> x.lineOf(1, 1, 3));
    }

    void promise20LinesThatLendAndBorrow() {
        answers("the lender", 11, Rooms::loan, x -> x.lineOf(0, 0, 4));
        answers("no borrower", NONE, Rooms::loan, x -> x.lineOf(0, 0, 5));
        answers("no lender", NONE, Rooms::loan, x -> x.lineOf(1, 1, 4));
        answers("the borrower", 0, Rooms::loan, x -> x.lineOf(1, 1, 5));
        Room last = () -> after(Rooms::sixteenLines, x -> x.borrow(0, 0, 3, 3));
        answers("the last lender", 33, last, x -> x.lineOf(0, 0, 4));
        Room first = () -> after(Rooms::sixteenLines, x -> x.borrow(3, 3, 0, 0));
        answers("the last borrower", 33, first, x -> x.lineOf(0, 0, 5));
        answers("the first lender", 0, first, x -> x.lineOf(3, 3, 4));
    }

    void promise20Rhymes() {
        for (int i = 0; i < 4; i++) {
            int line = i;
            answers("all four", 3, room("0/1/2/3"), x -> x.lineOf(0, line, 6));
            answers("none", 0, room("0/4/8/12"), x -> x.lineOf(0, line, 6));
            answers("two and two", 1, room("0/4/1/5"), x -> x.lineOf(0, line, 6));
            answers("bare lines", 0, Rooms::bare, x -> x.lineOf(0, line, 6));
            answers("of other doors", 0, room("0", "1", "2", "3"), x -> x.lineOf(line, 0, 6));
        }
        answers("by a loan", 1, () -> after(room("0/13", "12"), x -> x.borrow(0, 0, 1, 0)), x -> x.lineOf(0, 0, 6));
        answers("no longer by its own word", 0, () -> after(room("0/1", "12"), x -> x.borrow(0, 0, 1, 0)),
                x -> x.lineOf(0, 1, 6));
        answers("not with the line that lends", 0, () -> after(room("0", "12"), x -> x.borrow(0, 0, 1, 0)),
                x -> x.lineOf(0, 0, 6));
    }

    private static Room gap(String poem, int word) {
        return () -> after(room(poem), x -> x.takeOff(word));
    }

    void promise20SameKindsSideBySide() {
        line("0", 7, 1);
        line("0,1", 7, 1);
        line("2,6,10", 7, 1);
        answers("things", 0, gap("0,1,4", 1), x -> x.lineOf(0, 0, 7));
        answers("deeds", 0, gap("1,0,5", 0), x -> x.lineOf(0, 0, 7));
        answers("joints", 0, gap("3,0,7", 0), x -> x.lineOf(0, 0, 7));
        answers("colours", 1, gap("2,0,6", 0), x -> x.lineOf(0, 0, 7));
        answers("at the end", 0, gap("10,0,1,4", 1), x -> x.lineOf(0, 0, 7));
        answers("put between again", 1, () -> after(gap("0,1,4", 1), x -> x.put(1, 0, 0, 1)),
                x -> x.lineOf(0, 0, 7));
    }

    void promise20DoorOutOfRange() {
        refusesOutside(0, 3, INDEX, Rooms::livedIn, (x, door) -> x.lineOf(door, 0, 0));
    }

    void promise20LineOutOfRange() {
        refusesOutside(0, 3, INDEX, Rooms::livedIn, (x, line) -> x.lineOf(0, line, 0));
        refusesOutside(0, 3, INDEX, Rooms::livedIn, (x, line) -> x.lineOf(3, line, 0));
    }

    void promise20WhatOutOfRange() {
        refusesOutside(0, 7, ARGUMENT, Rooms::livedIn, (x, what) -> x.lineOf(0, 0, what));
    }

    void promise20NoSuchLineComesBeforeWhat() {
        refuses("door", INDEX, Rooms::livedIn, x -> x.lineOf(4, 0, 8));
        refuses("line", INDEX, Rooms::livedIn, x -> x.lineOf(0, -1, -1));
    }

    // ---- promise 21

    void promise21BareAndFullDoor() {
        for (int i = 0; i < 5; i++) {
            int what = i;
            answers("a bare one", 0, Rooms::lending, x -> x.doorOf(3, what));
        }
        answers("words of a full one", 24, () -> Rooms.fullDoor(3), x -> x.doorOf(3, 1));
        // The lines have 6, 6, 10 and 12 beats, each a thing and a deed; of their last words 10 and 28 rhyme.
        answers("worth of a full one", 34 + 20 + 4, () -> Rooms.fullDoor(3), x -> x.doorOf(3, 0));
    }

    void promise21PairsThatRhyme() {
        answers("one line", 0, room("0"), x -> x.doorOf(0, 2));
        answers("two lines", 1, room("0/1"), x -> x.doorOf(0, 2));
        answers("three lines", 3, room("0/1/2"), x -> x.doorOf(0, 2));
        answers("four lines", 6, room("0/1/2/3"), x -> x.doorOf(0, 2));
        answers("two and two", 2, room("0/4/1/5"), x -> x.doorOf(0, 2));
        answers("the first and the last", 1, () -> Rooms.line(Rooms.line(Rooms.bare(), 0, 0, 0), 0, 3, 1),
                x -> x.doorOf(0, 2));
        answers("of different doors", 0, room("0", "1"), x -> x.doorOf(0, 2));
    }

    void promise21WorthOfLinesAndRhymes() {
        answers("one line", 1, room("0"), x -> x.doorOf(0, 0));
        answers("two lines", 1 + 2 + 4, room("0/1"), x -> x.doorOf(0, 0));
        answers("four lines", 1 + 2 + 3 + 1 + 24, room("0/1/2/3"), x -> x.doorOf(0, 0));
        answers("a thing and a deed on different lines", 1 + 3, room("0/5"), x -> x.doorOf(0, 0));
        answers("eight beats on different lines", 3 + 3 + 2, room("2/14/10"), x -> x.doorOf(0, 0));
        answers("the last door", 8, room("", "", "", "0,1"), x -> x.doorOf(3, 0));
    }

    void promise21WatchedAndStolen() {
        Room robbed = () -> {
            MagnetPoems x = Rooms.set(Rooms.set(Rooms.with("", "", "", "5,8"), 1, 0), 2, 9);
            x.sleep(1);
            return x;
        };
        answers("watched", 9, robbed, x -> x.doorOf(3, 3));
        answers("stolen", 1, robbed, x -> x.doorOf(3, 4));
        answers("another not watched", 0, robbed, x -> x.doorOf(0, 3));
        answers("nothing stolen from it", 0, robbed, x -> x.doorOf(0, 4));
        answers("by takeOff nothing is stolen", 1, () -> after(robbed, x -> x.takeOff(8)), x -> x.doorOf(3, 4));
    }

    void promise21DoorOutOfRange() {
        refusesOutside(0, 3, INDEX, Rooms::livedIn, (x, door) -> x.doorOf(door, 0));
    }

    void promise21WhatOutOfRange() {
        refusesOutside(0, 4, ARGUMENT, Rooms::livedIn, (x, what) -> x.doorOf(0, what));
    }

    void promise21NoSuchDoorComesBeforeWhat() {
        refuses("above", INDEX, Rooms::livedIn, x -> x.doorOf(4, 5));
        refuses("below", INDEX, Rooms::livedIn, x -> x.doorOf(-1, -1));
    }

    // ---- promise 22

    void promise22FullAndEmptyBag() {
        for (int i = 0; i < 2; i++) {
            int what = i;
            answers("a full one", 40, Rooms::bare, x -> x.count(what));
            answers("an empty one", 0, Rooms::emptyBag, x -> x.count(what));
            answers("with a full door", 16, () -> Rooms.fullDoor(0), x -> x.count(what));
        }
    }

    private void bag(String what, MagnetPoems x, int want) {
        due(what + ", told by words", x.count(0), want);
        due(what + ", told by lines", x.count(1), want);
    }

    void promise22TheBagToldTwoWaysAgrees() {
        MagnetPoems x = Rooms.livedIn();
        bag("as it is", x, 31);
        x.put(30, 3, 3, 0);
        bag("put", x, 30);
        x.takeOff(0);
        bag("taken off", x, 31);
        x.move(1, 2, 0);
        bag("moved", x, 31);
        x.clearDoor(2);
        bag("cleared", x, 34);
        x.set(1, 0);
        x.sleep(1);
        bag("stolen", x, 35);
        x.undo();
        bag("undone", x, 34);
        x.goBack(0);
        bag("back", x, 32);
    }

    void promise22EachNumber() {
        int[] want = {31, 31, 2, 2, 11, 0, 1, 0, 6};
        MagnetPoems worth = Rooms.livedIn();
        for (int door = 0; door < 4; door++) {
            want[7] += worth.doorOf(door, 0);
        }
        for (int i = 0; i < 9; i++) {
            int what = i;
            answers("count " + what, want[what], Rooms::livedIn, x -> x.count(what));
        }
    }

    void promise22PutByPutMoveAndLoad() {
        answers("put", 1, () -> after(Rooms::bare, x -> x.put(0, 0, 0, 0)), x -> x.count(4));
        answers("load", 3, room("0,1/5"), x -> x.count(4));
        answers("move", 4, () -> after(room("0,1/5"), x -> x.move(0, 3, 3)), x -> x.count(4));
        answers("refused", 3, () -> after(room("0,1/5"), x -> x.move(5, 0, 0)), x -> x.count(4));
        answers("taken off", 3, () -> after(room("0,1/5"), x -> x.takeOff(0)), x -> x.count(4));
    }

    void promise22RefusedByPutAndMove() {
        answers("put", 1, () -> after(room("0,1/5"), x -> x.put(9, 0, 0, 2)), x -> x.count(5));
        answers("move", 1, () -> after(room("0,1/5"), x -> x.move(5, 0, 0)), x -> x.count(5));
        answers("not load", 0, () -> after(() -> Rooms.typed("0,4"), x -> x.load(0)), x -> x.count(5));
        answers("not whyNot", 0, () -> after(room("0,1"), x -> x.whyNot(5, 0, 0, 2)), x -> x.count(5));
        answers("not a call that throws", 0, () -> after(room("0,1"), x -> {
            Checks.outcome(() -> x.put(0, 0, 0, 0));
            return 0;
        }), x -> x.count(5));
    }

    void promise22WorthOfAllDoors() {
        answers("bare doors", 0, Rooms::bare, x -> x.count(7));
        answers("the first and the last door", 8 + 3, room("0,1", "", "", "5"), x -> x.count(7));
        answers("all doors", 1 + 2 + 3 + 1, room("0", "1", "2", "3"), x -> x.count(7));
    }

    void promise22WhatOutOfRange() {
        refusesOutside(0, 8, ARGUMENT, Rooms::livedIn, (x, what) -> x.count(what));
    }

    // ---- promise 23

    void promise23SettingOutOfRange() {
        refusesOutside(0, 2, INDEX, Rooms::livedIn, (x, setting) -> x.setting(setting));
    }

    void promise23FirstAndLastSetting() {
        MagnetPoems x = Rooms.set(Rooms.set(Rooms.set(Rooms.bare(), 0, 1), 1, 200), 2, 9);
        due("the first", x.setting(0), 1);
        due("the one between", x.setting(1), 200);
        due("the last", x.setting(2), 9);
    }

    void promise18To23NothingIsChanged() {
        leavesAll("wordOf", Rooms::livedIn, x -> x.wordOf(0, 5));
        leavesAll("at", Rooms::livedIn, x -> x.at(0, 0, 0));
        leavesAll("lineOf", Rooms::livedIn, x -> x.lineOf(0, 0, 3));
        leavesAll("doorOf", Rooms::livedIn, x -> x.doorOf(0, 0));
        leavesAll("count", Rooms::livedIn, x -> x.count(7));
        leavesAll("setting", Rooms::livedIn, x -> x.setting(1));
    }
}
