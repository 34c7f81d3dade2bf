/** Edges of promises 10 to 14: the buffer, poems as texts, and doors that are loaded and written. */
public final class TextsEdgesTest extends Edges {
    /** 23 words, eight of them of one digit: 60 characters. */
    private static final String LONGEST = "0,9,6,3,12,21/18,15,24,33,30,27/36,39,1,4,7,10/13,16,19,22,5";
    /** 20 words on four lines and a separator: 60 characters that more must follow. */
    private static final String TWENTY_WORDS = "10,11,12,13,14,15/16,17,18,19,20,21/22,23,24,25,26,27/28,29,";
    private static final String SIXTY = "x".repeat(60);

    public static void main(String[] args) {
        run(new TextsEdgesTest());
    }

    private static Room room(String... poems) {
        return () -> Rooms.with(poems);
    }

    private static Room typed(String text) {
        return () -> Rooms.typed(text);
    }

    /** A lived-in room with this text in the buffer. */
    private static Room livedIn(String text) {
        return () -> {
            MagnetPoems x = Rooms.livedIn();
            x.clearBuffer();
            return Rooms.type(x, text);
        };
    }

    // ---- promise 10

    void promise10CodeOutOfRange() {
        refusesOutside(33, 126, ARGUMENT, Rooms::livedIn, (x, code) -> x.append(code));
        refuses("0", ARGUMENT, Rooms::livedIn, x -> x.append(0));
    }

    void promise10EachCode() {
        for (int i = 33; i <= 126; i++) {
            int code = i;
            answers("append " + code, 1, Rooms::bare, x -> x.append(code));
        }
        MagnetPoems x = Rooms.bare();
        due("the first one", x.append(33), 1);
        due("the last one", x.append(126), 2);
        dueBuffer(x, "!~");
    }

    void promise10SixtyCharactersAndOneMore() {
        MagnetPoems x = Rooms.bare();
        for (int length = 1; length <= 60; length++) {
            due("append", x.append(32 + length), length);
        }
        refuses("one more", STATE, typed(SIXTY), y -> y.append('x'));
        refuses("one more in a lived-in room", STATE, livedIn(SIXTY), y -> y.append(126));
        answers("behind clearBuffer", 1, () -> after(typed(SIXTY), y -> y.clearBuffer()), y -> y.append('x'));
    }

    void promise10CodeComesBeforeAFullBuffer() {
        refuses("32", ARGUMENT, typed(SIXTY), x -> x.append(32));
        refuses("127", ARGUMENT, typed(SIXTY), x -> x.append(127));
    }

    void promise10BehindWhatIsThere() {
        answers("behind a text", 6, Rooms::livedIn, x -> x.append('/'));
        answers("behind a written door", 4, () -> after(room("0,1"), x -> x.write(0)), x -> x.append('/'));
        answers("behind a loaded poem", 1, room("0,1"), x -> x.append('0'));
    }

    void promise10IsNotUndoable() {
        savesNothing("append", Rooms::lending, x -> x.append('0'));
        changes("append", Rooms::lending, x -> x.append('0'), "firstError");
    }

    // ---- promise 11

    void promise11EmptyAndFullBuffer() {
        answers("an empty one", 0, Rooms::bare, x -> x.clearBuffer());
        answers("one character", 1, typed("0"), x -> x.clearBuffer());
        answers("a full one", 60, typed(SIXTY), x -> x.clearBuffer());
        answers("again", 0, () -> after(typed(SIXTY), x -> x.clearBuffer()), x -> x.clearBuffer());
    }

    void promise11OnlyTheBufferIsCleared() {
        MagnetPoems x = Rooms.livedIn();
        due("clearBuffer", x.clearBuffer(), 5);
        Rooms.type(x, "17,4x");
        dueSame("all else", x, Rooms::livedIn);
    }

    void promise11IsNotUndoable() {
        savesNothing("clearBuffer", Rooms::lending, x -> x.clearBuffer());
        savesNothing("clearBuffer of a text", () -> Rooms.type(Rooms.lending(), "0"), x -> x.clearBuffer());
    }

    // ---- promise 12

    private void error(String text, int want) {
        answers("firstError of " + text, want, typed(text), x -> x.firstError());
    }

    private void noError(String text) {
        error(text, text.length());
    }

    void promise12EmptyBuffer() {
        noError("");
    }

    void promise12EachNumberAndTheNextOnes() {
        for (int word = 0; word < 40; word++) {
            noError("" + word);
            noError(word + ",");
            noError(word + "/");
        }
        for (int number = 40; number < 100; number++) {
            error("" + number, 1);
        }
        for (int number = 100; number < 400; number++) {
            error("" + number, 2);
        }
    }

    void promise12EachCharacterAlone() {
        for (char code = 33; code < 127; code++) {
            error("" + code, code >= '0' && code <= '9' ? 1 : 0);
        }
    }

    void promise12EachCharacterBehindANumber() {
        for (char code = 33; code < 127; code++) {
            boolean digit = code >= '0' && code <= '9';
            error("3" + code, digit || code == ',' || code == '/' ? 2 : 1);
            error("30" + code, code == ',' || code == '/' ? 3 : 2);
            error("3," + code, digit ? 3 : 2);
        }
    }

    void promise12LeadingZeros() {
        noError("0");
        error("00", 1);
        error("01", 1);
        error("09", 1);
        error("1,00", 3);
        error("1/05", 3);
        noError("10");
        noError("20,0");
    }

    void promise12SeparatorsWithoutANumber() {
        error(",", 0);
        error("/", 0);
        error("1,,", 2);
        error("1,/", 2);
        error("1/,", 2);
        error("1//", 2);
        noError("1,");
        noError("1/");
    }

    void promise12SixWordsAndOneMore() {
        noError("10,11,12,13,14,15");
        noError("10,11,12,13,14,1");
        error("10,11,12,13,14,15,", 17);
        noError("10,11,12,13,14,15/16,17,18,19,20,21");
        error("10,11,12,13,14,15/16,17,18,19,20,21,", 35);
        error("1/10,11,12,13,14,15,", 19);
        noError("1/10,11,12,13,14,15/");
        error("1/2/3/10,11,12,13,14,15,", 23);
    }

    void promise12FourLinesAndOneMore() {
        noError("1/2/3/4");
        error("1/2/3/4/", 7);
        error("1/2/3/4,5/", 9);
        noError("1/2/3/4,5,6,7,8,9");
        noError(LONGEST);
    }

    void promise12NumbersThatStandTwice() {
        error("0,0", 2);
        error("0/0", 2);
        error("9,1,9", 4);
        error("4,4", 2);
        error("39,39", 4);
        error("39,3,39", 6);
        error("10/10", 4);
        noError("39,38");
        noError("3,30");
        noError("30,3");
        noError("0,10");
    }

    /** 1, 2 and 3 may begin another number, though they stand already. */
    void promise12NumbersThatStandTwiceButMayBecomeOthers() {
        noError("1,1");
        noError("1,10");
        noError("2,2");
        noError("2/29");
        noError("3,3");
        error("1,1,", 3);
        error("1,1/", 3);
        error("3/3,", 3);
        error("10,1,1,", 6);
        error("10,1,10", 6);
        noError("10,1,11");
    }

    void promise12NumbersThatStandTwiceAndCannotBecomeOthers() {
        String threes = "3,30,31,32,33,34/35,36,37,38,39";
        error(threes + ",3", 32);
        error(threes + "/3", 32);
        noError(threes + ",2");
        noError(threes.replace(",39", "") + ",3");
        noError(threes.replace(",39", "") + ",39");
        error(threes.replace(",39", "") + ",38", 30);
        noError(threes.replace("3,30", "1,30") + ",3");
        error(threes.replace("3,30", "1,30") + ",30", 33);
        noError(threes.replace("3,30", "1,3") + ",30");
        error("2,20,21,22,23,24/25,26,27,28,29,2", 32);
        error("1,10,11,12,13,14/15,16,17,18,19,1", 32);
        error("4,4", 2);
    }

    void promise12TheFirstOfSeveralErrors() {
        error("x", 0);
        error("xx", 0);
        error("1x,x", 1);
        error("0,1,2,x,40", 6);
        error("40,0,0", 1);
        error("x1,2", 0);
    }

    void promise12FullBuffer() {
        noError(LONGEST);
        error(LONGEST.substring(0, 59) + "x", 59);
        error(LONGEST.substring(0, 59) + "0", 59);
        error("x" + LONGEST.substring(1), 0);
        error(SIXTY, 0);
        noError(TWENTY_WORDS);
        error(TWENTY_WORDS.substring(0, 59) + "/", 59);
    }

    void promise12NothingIsChanged() {
        leavesAll("firstError", Rooms::livedIn, x -> x.firstError());
        leavesAll("firstError of a poem", livedIn("10,11/12"), x -> x.firstError());
        answers("again", 3, () -> after(typed("1,1,1"), x -> x.firstError()), x -> x.firstError());
    }

    // ---- promise 13

    private void loads(String text, int want, Room room, int door, String words) {
        MagnetPoems x = Rooms.type(room.make(), text);
        due("load of " + text, x.load(door), want);
        dueDoor(x, door, words);
        due("the buffer is cleared", x.clearBuffer(), 0);
    }

    void promise13FirstAndLastDoor() {
        for (int door = 0; door < 4; door++) {
            loads("0/1", 2, Rooms::bare, door, "0/1//");
        }
    }

    void promise13OneWordAndTheLongestText() {
        loads("0", 1, Rooms::bare, 0, "0///");
        loads("39", 1, Rooms::bare, 3, "39///");
        loads(LONGEST, 23, Rooms::bare, 2, LONGEST);
        loads("0/1/2/3", 4, Rooms::bare, 2, "0/1/2/3");
    }

    void promise13DoorOutOfRange() {
        refusesOutside(0, 3, INDEX, livedIn("38/37"), (x, door) -> x.load(door));
    }

    void promise13BufferThatIsNoPoem() {
        String[] texts = {"", "x", ",", "/", "1,", "1/", "1,,2", "1//2", "40", "00", "01", "100", "4,4", "1,1", "1,10,1",
            "2/2", "39,3,39", "1x", "10,11,12,13,14,15,16", "1/2/3/4/5", "1/2/3/4/", "1/2/3/4,", SIXTY};
        for (String text : texts) {
            refuses("load of " + text, ARGUMENT, livedIn(text), x -> x.load(0));
        }
        refuses("a full buffer that ends in a separator", ARGUMENT, livedIn(TWENTY_WORDS), x -> x.load(0));
    }

    void promise13NoSuchDoorComesBeforeTheBuffer() {
        refuses("an empty buffer", INDEX, Rooms::bare, x -> x.load(4));
        refuses("no poem", INDEX, Rooms::livedIn, x -> x.load(-1));
    }

    void promise13ADoorWithWordsIsClearedFirst() {
        loads("2/6", 2, Rooms::lending, 0, "2/6//");
        loads("5,4/1,0", 4, Rooms::lending, 0, "5,4/1,0//");
        loads("0", 1, () -> Rooms.fullDoor(3), 3, "0///");
    }

    void promise13UpToAWordThatIsNotInTheBag() {
        loads("2,9,6", 1, Rooms::lending, 0, "2///");
        loads("9,2,6", 0, Rooms::lending, 0, "///");
        loads("2,6/0,10", 2, Rooms::lending, 1, "2,6///");
        loads("2,6/10,0/14/18", 3, Rooms::lending, 1, "2,6/10//");
        loads("1", 0, Rooms::emptyBag, 3, "///");
    }

    void promise13UpToAWordThatCannotStand() {
        loads("5,8,14,2", 4, Rooms::bare, 0, "5,8,14,2///");
        loads("5,8,14,2,6", 4, Rooms::bare, 0, "5,8,14,2///");
        loads("5,8,14,2,6/0", 4, Rooms::bare, 0, "5,8,14,2///");
        loads("0/1,5,2/6", 2, Rooms::bare, 0, "0/1//");
        loads("0,1,2,3", 4, Rooms::bare, 0, "0,1,2,3///");
        loads("0,3,1", 1, () -> Rooms.set(Rooms.bare(), 0, 1), 0, "0///");
        loads("3,0,1", 0, () -> Rooms.set(Rooms.bare(), 0, 1), 0, "///");
        loads("0,1/3", 2, () -> Rooms.set(Rooms.bare(), 0, 1), 0, "0,1///");
    }

    void promise13PutIsCountedAndRefusedIsNot() {
        MagnetPoems x = Rooms.typed("0,1,5,2");
        due("load", x.load(0), 2);
        due("put", x.count(4), 2);
        due("refused", x.count(5), 0);
        Rooms.type(x, "0");
        due("load on another door", x.load(1), 0);
        due("put then", x.count(4), 2);
        due("refused then", x.count(5), 0);
    }

    void promise13OtherDoorsStay() {
        MagnetPoems x = Rooms.type(Rooms.with("0", "1", "2", "3"), "4");
        x.load(1);
        dueText("words", words(x), "0/// 4/// 2/// 3/// ");
    }

    void promise13WhatIsCountedOfTheDoorStays() {
        MagnetPoems x = Rooms.set(Rooms.set(Rooms.with("5,8"), 1, 0), 2, 9);
        x.sleep(1);
        Rooms.load(x, 0, "5");
        due("watched yet", x.doorOf(0, 3), 9);
        due("stolen from it", x.doorOf(0, 4), 1);
    }

    void promise13ALoadThatPutsNothingOnABareDoor() {
        MagnetPoems x = Rooms.type(Rooms.loan(), "0");
        due("load", x.load(3), 0);
        due("saved", x.count(8), 4);
        dueText("as with nothing", View.changed(Rooms::loan, () -> {
            MagnetPoems y = Rooms.type(Rooms.loan(), "0");
            y.load(3);
            return y;
        }).toString(), "[count 8]");
    }

    void promise13CanBeUndoneAsOneCall() {
        MagnetPoems x = Rooms.type(Rooms.loan(), "2/6,10/14");
        due("load", x.load(0), 4);
        due("saved", x.count(8), 4);
        due("undo", x.undo(), 3);
        dueSame("all but the buffer", x, Rooms::loan);
        MagnetPoems none = Rooms.type(Rooms.loan(), "9");
        due("load of nothing", none.load(0), 0);
        due("undo of it", none.undo(), 3);
        dueSame("all but the buffer then", none, Rooms::loan);
    }

    // ---- promise 14

    private void writes(String want, Room room, int door) {
        MagnetPoems x = room.make();
        due("write", x.write(door), want.length());
        dueBuffer(x, want);
    }

    void promise14BareDoor() {
        writes("", Rooms::bare, 0);
        writes("", () -> Rooms.type(Rooms.lending(), "what-was-there"), 2);
    }

    void promise14FirstAndLastDoor() {
        for (int door = 0; door < 4; door++) {
            int number = door;
            writes("39,0/38", () -> {
                MagnetPoems x = Rooms.bare();
                Rooms.load(x, number, "39,0/38");
                return x;
            }, door);
        }
    }

    void promise14DoorOutOfRange() {
        refusesOutside(0, 3, INDEX, Rooms::livedIn, (x, door) -> x.write(door));
    }

    void promise14OnlyLinesWithWords() {
        writes("0", () -> Rooms.line(Rooms.bare(), 0, 3, 0), 0);
        writes("0/1", () -> Rooms.line(Rooms.line(Rooms.bare(), 0, 0, 0), 0, 3, 1), 0);
        writes("10/1", () -> Rooms.line(Rooms.line(Rooms.bare(), 0, 1, 10), 0, 2, 1), 0);
        writes("0/1/2/3", room("0/1/2/3"), 0);
    }

    void promise14OnlyItsOwnLines() {
        Room four = room("0/1/2/3", "4/5/6/7", "8/9/10/11", "12/13/14/15");
        writes("0/1/2/3", four, 0);
        writes("4/5/6/7", four, 1);
        writes("8/9/10/11", four, 2);
        writes("12/13/14/15", four, 3);
        Room nearlyFull = () -> Rooms.line(Rooms.line(nearlyFull(5), 0, 3, 37), 2, 0, 38);
        writes(LONGEST, nearlyFull, 1);
        writes("37", nearlyFull, 0);
    }

    void promise14NumbersWithoutLeadingZeros() {
        writes("9,10/0,39", room("9,10/0,39"), 0);
        writes("10", room("10"), 0);
        writes("20,30", room("20,30"), 0);
    }

    void promise14InPlaceOfWhatWasThere() {
        writes("0,1", () -> Rooms.type(Rooms.with("0,1"), SIXTY), 0);
        writes("0,1", () -> Rooms.type(Rooms.with("0,1"), "x"), 0);
        writes("", () -> Rooms.type(Rooms.with("0,1"), SIXTY), 1);
    }

    /** 22 of the words of a full door, and another one on its last line. */
    private static MagnetPoems nearlyFull(int word) {
        MagnetPoems x = Rooms.fullDoor(1);
        x.takeOff(25);
        x.takeOff(28);
        return Rooms.line(x, 1, 3, word);
    }

    void promise14SixtyCharactersAndOneMore() {
        writes(LONGEST, () -> nearlyFull(5), 1);
        answers("61 characters", NONE, () -> nearlyFull(25), x -> x.write(1));
        answers("64 characters", NONE, () -> Rooms.fullDoor(1), x -> x.write(1));
        answers("24 words with all numbers of one digit: 61", NONE, TextsEdgesTest::shortestFullDoor, x -> x.write(0));
    }

    private static MagnetPoems shortestFullDoor() {
        MagnetPoems x = Rooms.line(Rooms.bare(), 0, 0, 0, 9, 6, 3, 12, 21);
        Rooms.line(x, 0, 1, 18, 15, 24, 25, 22, 31);
        Rooms.line(x, 0, 2, 28, 39, 1, 4, 7, 2);
        return Rooms.line(x, 0, 3, 5, 8, 33, 30, 27, 36);
    }

    void promise14TooLongLeavesTheBuffer() {
        leavesAll("write of 61", () -> Rooms.type(nearlyFull(25), "what-was-there"), x -> x.write(1));
        leavesAll("write of 61 with a full buffer", () -> Rooms.type(nearlyFull(25), SIXTY), x -> x.write(1));
        leavesAll("write of 61 with an empty buffer", () -> nearlyFull(25), x -> x.write(1));
    }

    void promise14IsNotUndoable() {
        savesNothing("write", Rooms::lending, x -> x.write(0));
        savesNothing("write of too much", () -> nearlyFull(25), x -> x.write(1));
        changes("write", Rooms::lending, x -> x.write(0), "firstError");
    }

    void promise14CanBeLoadedAgain() {
        MagnetPoems x = nearlyFull(5);
        x.write(1);
        due("no error", x.firstError(), 60);
        due("load", x.load(1), 23);
        dueDoor(x, 1, LONGEST);
    }
}
