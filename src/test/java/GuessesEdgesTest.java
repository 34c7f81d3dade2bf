/** Edges of promises 24, 25, 28 and 29: what would be, the share and the hash. */
public final class GuessesEdgesTest extends Edges {
    public static void main(String[] args) {
        run(new GuessesEdgesTest());
    }

    private static Room room(String... poems) {
        return () -> Rooms.with(poems);
    }

    private static Room strict(String... poems) {
        return () -> Rooms.set(Rooms.with(poems), 0, 1);
    }

    // ---- promise 24

    void promise24WordOutOfRange() {
        refusesOutside(0, 39, INDEX, Rooms::livedIn, (x, word) -> x.whyNot(word, 0, 0, 0));
    }

    void promise24DoorOutOfRange() {
        refusesOutside(0, 3, INDEX, Rooms::livedIn, (x, door) -> x.whyNot(20, door, 0, 0));
    }

    void promise24LineOutOfRange() {
        refusesOutside(0, 3, INDEX, Rooms::livedIn, (x, line) -> x.whyNot(20, 0, line, 0));
    }

    void promise24PlaceOutOfRange() {
        refusesOutside(0, 0, INDEX, Rooms::livedIn, (x, place) -> x.whyNot(20, 3, 3, place));
        refusesOutside(0, 2, INDEX, Rooms::livedIn, (x, place) -> x.whyNot(20, 0, 0, place));
        refusesOutside(0, 6, INDEX, () -> Rooms.fullDoor(0), (x, place) -> x.whyNot(20, 0, 0, place));
        answers("place 6", 1, () -> Rooms.fullDoor(0), x -> x.whyNot(20, 0, 0, 6));
    }

    void promise24NoSuchPlaceThoughItIsOnThisLine() {
        refuses("place 3", INDEX, Rooms::livedIn, x -> x.whyNot(0, 0, 0, 3));
        refuses("place -1", INDEX, Rooms::livedIn, x -> x.whyNot(0, 0, 0, -1));
    }

    void promise24OnThisLine() {
        for (int i = 0; i <= 2; i++) {
            int place = i;
            answers("the first word", NONE, room("0,1"), x -> x.whyNot(0, 0, 0, place));
            answers("the last word", NONE, room("0,1"), x -> x.whyNot(1, 0, 0, place));
        }
        answers("on a full line", NONE, () -> Rooms.fullDoor(0), x -> x.whyNot(0, 0, 0, 6));
        answers("alone on the last line", NONE, () -> Rooms.line(Rooms.bare(), 3, 3, 39), x -> x.whyNot(39, 3, 3, 1));
    }

    void promise24OnAnotherLineAsIfInTheBag() {
        answers("another line", 0, room("0,1/6"), x -> x.whyNot(6, 0, 0, 0));
        answers("another line that refuses", 3, room("0,1/5"), x -> x.whyNot(5, 0, 0, 2));
        answers("the same line of another door", 0, room("0,1", "6"), x -> x.whyNot(0, 1, 0, 0));
        answers("another line of this door, bare", 0, room("0,1"), x -> x.whyNot(1, 0, 3, 0));
        answers("its beats count there alone", 0, room("5,8,14,2/9"), x -> x.whyNot(2, 0, 1, 1));
    }

    void promise24EachReason() {
        answers("the sixth word", 0, room("0,9,6,3,12"), x -> x.whyNot(21, 0, 0, 5));
        answers("a seventh word", 1, room("0,9,6,3,12,21"), x -> x.whyNot(18, 0, 0, 0));
        answers("12 beats", 0, room("5,8,14,4"), x -> x.whyNot(21, 0, 0, 4));
        answers("13 beats", 2, room("5,8,14,4"), x -> x.whyNot(25, 0, 0, 4));
        answers("same kinds", 3, room("0,1"), x -> x.whyNot(5, 0, 0, 1));
        answers("colours", 0, room("0,2"), x -> x.whyNot(6, 0, 0, 1));
        answers("a joint last", 4, strict("0,1"), x -> x.whyNot(3, 0, 0, 2));
        answers("a joint first", 4, strict("0,1"), x -> x.whyNot(3, 0, 0, 0));
        answers("a joint between", 0, strict("0,1"), x -> x.whyNot(3, 0, 0, 1));
        answers("a joint alone", 4, strict(), x -> x.whyNot(3, 3, 3, 0));
    }

    void promise24TheFirstReasonThatIsSo() {
        answers("full, and all else", 1, strict("0,1,10,12,13,7"), x -> x.whyNot(11, 0, 0, 6));
        answers("13 beats, and both", 2, strict("5,8,14,11"), x -> x.whyNot(3, 0, 0, 4));
        answers("same kinds, and a joint", 3, strict("7,0"), x -> x.whyNot(3, 0, 0, 0));
    }

    void promise24AsPutAnswers() {
        Room[] rooms = {strict("0,1,10,12,13,7/5,8,14,11/3,4/2"), room("0,1,10,12,13,7/5,8,14,11/3,4/2")};
        for (Room room : rooms) {
            for (int i = 0; i < 40; i++) {
                int word = i;
                MagnetPoems x = room.make();
                for (int line = 0; line < 4 && x.wordOf(word, 3) == NONE; line++) {
                    int row = line;
                    for (int k = x.lineOf(0, row, 0); k >= 0; k--) {
                        int place = k;
                        answers("word " + word, x.whyNot(word, 0, row, place), room,
                                y -> y.put(word, 0, row, place));
                    }
                }
            }
        }
    }

    void promise24NothingIsChanged() {
        leavesAll("whyNot", Rooms::livedIn, x -> x.whyNot(5, 0, 0, 1));
        leavesAll("whyNot of another line", Rooms::livedIn, x -> x.whyNot(39, 0, 0, 1));
    }

    // ---- promise 25

    private void best(String poem, int want) {
        answers("bestWord of " + poem, want, room(poem), x -> x.bestWord(0, 0));
    }

    void promise25DoorOutOfRange() {
        refusesOutside(0, 3, INDEX, Rooms::livedIn, (x, door) -> x.bestWord(door, 0));
    }

    void promise25LineOutOfRange() {
        refusesOutside(0, 3, INDEX, Rooms::livedIn, (x, line) -> x.bestWord(0, line));
        refusesOutside(0, 3, INDEX, Rooms::livedIn, (x, line) -> x.bestWord(3, line));
    }

    void promise25BareLine() {
        for (int i = 0; i < 16; i++) {
            int line = i;
            answers("the lowest word of three beats", 2, Rooms::bare, x -> x.bestWord(line / 4, line % 4));
        }
    }

    void promise25NoneIfNoneCanStand() {
        best("0,9,6,3,12,21", NONE);
        best("5,8,14,2", NONE);
        answers("same kinds on the line", NONE, () -> after(room("0,1,4"), x -> x.takeOff(1)), x -> x.bestWord(0, 0));
    }

    void promise25NoneWithAnEmptyBag() {
        for (int i = 0; i < 16; i++) {
            int line = i;
            answers("line " + line, NONE, Rooms::emptyBag, x -> x.bestWord(line / 4, line % 4));
        }
        answers("the only word in the bag", 39, () -> after(Rooms::emptyBag, x -> x.takeOff(39)),
                x -> x.bestWord(1, 3));
        answers("the only word cannot stand", NONE, () -> after(Rooms::emptyBag, x -> x.takeOff(39)),
                x -> x.bestWord(0, 1));
    }

    void promise25OfSeveralTheLowest() {
        answers("of all of three beats", 2, Rooms::bare, x -> x.bestWord(0, 0));
        answers("the next one", 5, () -> Rooms.line(Rooms.bare(), 3, 0, 2), x -> x.bestWord(0, 0));
    }

    void promise25AThingAndADeed() {
        best("0", 5);
        best("1", 8);
        best("2", 5);
    }

    void promise25ExactlyEightBeats() {
        best("2,14", 1);
        best("5,8", 1);
        best("14,26,6", 0);
        best("14,26,10", 2);
    }

    void promise25TheLastBeats() {
        best("5,8,14,10", 0);
        best("5,8,14", 2);
        best("5,8,14,1", 0);
    }

    void promise25Rhymes() {
        answers("a rhyme is worth more than a beat", 1, () -> Rooms.line(room("21").make(), 3, 3, 2, 20, 23),
                x -> x.bestWord(0, 1));
        answers("two rhymes", 5, room("21/24/27"), x -> x.bestWord(0, 3));
        answers("three rhymes", 5, room("24/25/27"), x -> x.bestWord(0, 3));
        answers("of another door, none", 2, room("", "24/25/27"), x -> x.bestWord(0, 3));
    }

    void promise25JointsAtEnds() {
        Room joints = () -> after(Rooms::emptyBag, x -> x.takeOff(39));
        answers("allowed", 39, joints, x -> x.bestWord(1, 3));
        answers("not allowed", NONE, () -> Rooms.set(joints.make(), 0, 1), x -> x.bestWord(1, 3));
    }

    void promise25ALoanEndsWithTheWord() {
        answers("its own ending counts", 4, () -> after(room("21/24", "9"), x -> x.borrow(0, 0, 1, 0)),
                x -> x.bestWord(0, 0));
        answers("the other lines' loans count", 8, () -> after(room("21", "9"), x -> x.borrow(0, 0, 1, 0)),
                x -> x.bestWord(0, 1));
    }

    void promise25NothingIsChanged() {
        leavesAll("bestWord", Rooms::livedIn, x -> x.bestWord(0, 0));
        leavesAll("bestWord of a line that lends", Rooms::loan, x -> x.bestWord(1, 1));
        leavesAll("bestWord of a line that borrows", Rooms::loan, x -> x.bestWord(0, 0));
    }

    // ---- promise 28

    private void share(String what, double want, Room room) {
        answers(what, Double.doubleToLongBits(want), room, x -> Double.doubleToLongBits(x.shownShare()));
    }

    void promise28NoneAndAll() {
        share("none", 0.0, Rooms::bare);
        share("all", 1.0, Rooms::emptyBag);
    }

    void promise28OneMoreAndOneLess() {
        share("one", 1 / 40.0, room("0"));
        share("half of them", 0.5, () -> Rooms.with("0,9,6,3,12,21/18,15,24,33,30,27/36,39,1,4,7,10/13,16"));
        share("all but one", 39 / 40.0, () -> after(Rooms::emptyBag, x -> x.takeOff(0)));
        share("taken off again", 0.0, () -> after(room("0"), x -> x.takeOff(0)));
    }

    void promise28NothingIsChanged() {
        leavesAll("shownShare", Rooms::livedIn, x -> (long) x.shownShare());
    }

    // ---- promise 29

    /** The hash by its list, from looks; the slots and the buffer cannot be looked at. */
    private static long hashOf(MagnetPoems x, boolean first, boolean second, String buffer) {
        long hash = 3391;
        for (int what = 0; what <= 8; what++) {
            hash = 31 * hash + x.count(what);
        }
        for (int setting = 0; setting <= 2; setting++) {
            hash = 31 * hash + x.setting(setting);
        }
        for (int word = 0; word < 40; word++) {
            for (int what = 3; what <= 6; what++) {
                hash = 31 * hash + x.wordOf(word, what);
            }
        }
        for (int door = 0; door < 4; door++) {
            hash = hashOfDoor(hash, x, door);
        }
        hash = 31 * hash + x.prey();
        hash = 31 * hash + Double.doubleToLongBits(x.shownShare());
        hash = 31 * hash + (first ? 1 : 0);
        hash = 31 * hash + (second ? 1 : 0);
        hash = 31 * hash + buffer.length();
        for (char code : buffer.toCharArray()) {
            hash = 31 * hash + code;
        }
        return hash;
    }

    private static long hashOfDoor(long start, MagnetPoems x, int door) {
        long hash = start;
        for (int what = 0; what <= 4; what++) {
            hash = 31 * hash + x.doorOf(door, what);
        }
        for (int line = 0; line < 4; line++) {
            for (int place = 0; place <= 5; place++) {
                hash = 31 * hash + x.at(door, line, place);
            }
            for (int what = 0; what <= 7; what++) {
                hash = 31 * hash + x.lineOf(door, line, what);
            }
            hash = 31 * hash + x.bestWord(door, line);
        }
        return 31 * hash + x.ifSlept(3, door);
    }

    private void hash(String what, Room room, boolean first, boolean second, String buffer) {
        answers(what, hashOf(room.make(), first, second, buffer), room, x -> x.digest());
    }

    void promise29ANewObject() {
        hash("new", Rooms::bare, false, false, "");
    }

    void promise29ManyRooms() {
        hash("lived in", Rooms::livedIn, true, true, "17,4x");
        hash("a loan", Rooms::loan, false, false, "");
        hash("a robbed room", () -> Rooms.set(Rooms.set(Rooms.with("5,8,1/17,20,13", "2,14,26/4,21"), 1, 0), 2, 0),
                false, false, "");
    }

    void promise29FullAndEmptyBuffer() {
        hash("one", () -> Rooms.typed("!"), false, false, "!");
        hash("full", () -> Rooms.typed("~".repeat(60)), false, false, "~".repeat(60));
        hash("cleared", () -> after(() -> Rooms.typed("~~"), x -> x.clearBuffer()), false, false, "");
    }

    void promise29EachSlot() {
        hash("the first", () -> after(Rooms::bare, x -> x.keep(0)), true, false, "");
        hash("the last", () -> after(Rooms::bare, x -> x.keep(1)), false, true, "");
        hash("both", () -> after(() -> after(Rooms::bare, x -> x.keep(1)), x -> x.keep(0)), true, true, "");
    }

    /** Shares of 1, 2, .. words in 40 have bits of many kinds. */
    void promise29EachShare() {
        MagnetPoems x = Rooms.bare();
        Model model = new Model();
        for (int word = 0; word < 40; word++) {
            x.put(word, word / 4 % 4, (word + word / 16) % 4, 0);
            model.put(word, word / 4 % 4, (word + word / 16) % 4, 0);
            due("with " + (word + 1) + " words", x.digest(), model.digest());
        }
    }

    void promise29TheLimitOfNightsDoesNotMatter() {
        MagnetPoems x = Rooms.bare();
        Model model = new Model();
        for (int i = 0; i < 500; i++) {
            x.sleep(i == 0 ? 19 : 20);
            model.sleep(i == 0 ? 19 : 20);
        }
        x.put(2, 0, 0, 0);
        x.set(1, 0);
        model.put(2, 0, 0, 0);
        model.set(1, 0);
        due("nights", x.count(2), 9999);
        due("digest", x.digest(), model.digest());
    }

    void promise29NothingIsChanged() {
        leavesAll("digest", Rooms::livedIn, x -> x.digest());
        answers("twice", Rooms.livedIn().digest(), () -> after(Rooms::livedIn, x -> x.digest()), x -> x.digest());
    }
}
