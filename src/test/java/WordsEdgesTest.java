/** Edges of promises 1 to 5: a new object, and words put, taken off, moved and cleared off. */
public final class WordsEdgesTest extends Edges {
    public static void main(String[] args) {
        run(new WordsEdgesTest());
    }

    private static Room room(String... poems) {
        return () -> Rooms.with(poems);
    }

    private static Room strict(String... poems) {
        return () -> Rooms.set(Rooms.with(poems), 0, 1);
    }

    // ---- promise 1

    void promise01FourBareDoors() {
        MagnetPoems x = Rooms.bare();
        for (int door = 0; door < 4; door++) {
            dueDoor(x, door, "///");
            for (int what = 0; what < 5; what++) {
                due("doorOf " + door + " " + what, x.doorOf(door, what), 0);
            }
            for (int line = 0; line < 4; line++) {
                due("words", x.lineOf(door, line, 0), 0);
                due("no lender", x.lineOf(door, line, 4), NONE);
                due("no borrower", x.lineOf(door, line, 5), NONE);
            }
        }
    }

    void promise01AllWordsInTheBag() {
        MagnetPoems x = Rooms.bare();
        due("told by words", x.count(0), 40);
        due("told by lines", x.count(1), 40);
        for (int word = 0; word < 40; word++) {
            for (int what = 3; what < 6; what++) {
                due("wordOf " + word + " " + what, x.wordOf(word, what), NONE);
            }
            due("thefts of " + word, x.wordOf(word, 6), 0);
        }
    }

    void promise01EmptySlots() {
        refuses("goBack 0", STATE, Rooms::bare, x -> x.goBack(0));
        refuses("goBack 1", STATE, Rooms::bare, x -> x.goBack(1));
    }

    void promise01EmptyBuffer() {
        answers("clearBuffer", 0, Rooms::bare, x -> x.clearBuffer());
        answers("firstError", 0, Rooms::bare, x -> x.firstError());
        answers("append", 1, Rooms::bare, x -> x.append('0'));
    }

    void promise01NothingCountedOrSaved() {
        for (int what = 2; what < 9; what++) {
            int number = what;
            answers("count " + what, 0, Rooms::bare, x -> x.count(number));
        }
        refuses("undo", STATE, Rooms::bare, x -> x.undo());
    }

    void promise01SettingsAsAtFirst() {
        answers("joints", 0, Rooms::bare, x -> x.setting(0));
        answers("how rich", 20, Rooms::bare, x -> x.setting(1));
        answers("nights watched", 1, Rooms::bare, x -> x.setting(2));
    }

    void promise01TwoObjectsShareNothing() {
        MagnetPoems x = Rooms.bare();
        Rooms.livedIn();
        dueSame("a new one beside another", x, Rooms::bare);
    }

    // ---- promise 2

    void promise02FirstAndLastWord() {
        for (int word : new int[] {0, 39}) {
            MagnetPoems x = Rooms.bare();
            due("put " + word, x.put(word, 0, 0, 0), 0);
            due("at its place", x.at(0, 0, 0), word);
        }
    }

    void promise02EachLineOfEachDoor() {
        MagnetPoems x = Rooms.sixteenLines();
        for (int word = 0; word < 16; word++) {
            due("word " + word, x.at(word / 4, word % 4, 0), word);
            due("words of its line", x.lineOf(word / 4, word % 4, 0), 1);
        }
    }

    void promise02AheadBetweenAndBehind() {
        MagnetPoems x = Rooms.with("0,1");
        due("ahead of the first", x.put(2, 0, 0, 0), 0);
        due("ahead of the last", x.put(6, 0, 0, 2), 0);
        due("behind the last", x.put(10, 0, 0, 4), 0);
        dueDoor(x, 0, "2,0,6,1,10///");
    }

    void promise02WordOutOfRange() {
        refusesOutside(0, 39, INDEX, Rooms::livedIn, (x, word) -> x.put(word, 0, 0, 0));
    }

    void promise02DoorOutOfRange() {
        refusesOutside(0, 3, INDEX, Rooms::livedIn, (x, door) -> x.put(20, door, 0, 0));
    }

    void promise02LineOutOfRange() {
        refusesOutside(0, 3, INDEX, Rooms::livedIn, (x, line) -> x.put(20, 0, line, 0));
    }

    void promise02PlaceOutOfRangeOfABareLine() {
        refusesOutside(0, 0, INDEX, Rooms::livedIn, (x, place) -> x.put(20, 3, 3, place));
        answers("place 0", 0, Rooms::livedIn, x -> x.put(20, 3, 3, 0));
    }

    void promise02PlaceOutOfRangeOfALineWithWords() {
        refusesOutside(0, 2, INDEX, Rooms::livedIn, (x, place) -> x.put(2, 0, 0, place));
        answers("place 2", 0, Rooms::livedIn, x -> x.put(2, 0, 0, 2));
    }

    void promise02PlaceOutOfRangeOfAFullLine() {
        refusesOutside(0, 6, INDEX, room("0,9,6,3,12,21"), (x, place) -> x.put(2, 0, 0, place));
        answers("place 6 is one", 1, room("0,9,6,3,12,21"), x -> x.put(2, 0, 0, 6));
    }

    void promise02PlaceIsCountedOnTheLineItself() {
        refuses("a place of another line", INDEX, room("0,1/5"), x -> x.put(2, 0, 1, 2));
        refuses("a place of another door", INDEX, room("0,1", "5"), x -> x.put(2, 1, 0, 2));
        refuses("a place of the line before it", INDEX, room("0/4,5"), x -> x.put(2, 0, 0, 2));
    }

    void promise02WordThatIsNotInTheBag() {
        refuses("on another door", STATE, Rooms::livedIn, x -> x.put(9, 2, 0, 0));
        refuses("on another line", STATE, Rooms::livedIn, x -> x.put(4, 0, 2, 0));
        refuses("on this line", STATE, Rooms::livedIn, x -> x.put(0, 0, 0, 2));
        refuses("the last word", STATE, Rooms::livedIn, x -> x.put(39, 2, 0, 0));
        answers("a stolen word is in the bag", 0, Rooms::livedIn, x -> x.put(5, 2, 0, 0));
        for (int word = 0; word < 40; word++) {
            int number = word;
            refuses("an empty bag", STATE, Rooms::emptyBag, x -> x.put(number, 0, 0, 0));
        }
    }

    void promise02NoSuchPlaceComesBeforeNotInTheBag() {
        refuses("door", INDEX, Rooms::livedIn, x -> x.put(0, 4, 0, 0));
        refuses("line", INDEX, Rooms::livedIn, x -> x.put(0, 0, -1, 0));
        refuses("place", INDEX, Rooms::livedIn, x -> x.put(0, 0, 0, 3));
    }

    void promise02NotInTheBagComesBeforeAnyReason() {
        refuses("a full line", STATE, room("0,9,6,3,12,21/5"), x -> x.put(5, 0, 0, 6));
    }

    void promise02SixWordsAndOneMore() {
        answers("the sixth one", 0, room("0,9,6,3,12"), x -> x.put(21, 0, 0, 5));
        answers("the sixth one ahead", 0, room("9,6,3,12,21"), x -> x.put(0, 0, 0, 0));
        for (int place = 0; place <= 6; place++) {
            int number = place;
            answers("a seventh one", 1, room("0,9,6,3,12,21"), x -> x.put(18, 0, 0, number));
        }
    }

    void promise02TwelveBeatsAndOneMore() {
        answers("12 beats", 0, room("5,8,14,4"), x -> x.put(21, 0, 0, 4));
        answers("13 beats", 2, room("5,8,14,4"), x -> x.put(25, 0, 0, 4));
        answers("12 beats by three", 0, room("5,8,14"), x -> x.put(35, 0, 0, 3));
        answers("13 beats ahead", 2, room("5,8,14,2"), x -> x.put(6, 0, 0, 0));
        answers("13 beats between", 2, room("5,8,14,2"), x -> x.put(6, 0, 0, 3));
        answers("beats of another line", 0, room("5,8,14,2/6"), x -> x.put(10, 0, 1, 1));
    }

    void promise02SameKindsSideBySide() {
        answers("things", 3, room("0"), x -> x.put(4, 0, 0, 1));
        answers("deeds", 3, room("1"), x -> x.put(5, 0, 0, 0));
        answers("colours", 0, room("2"), x -> x.put(6, 0, 0, 1));
        answers("colours ahead", 0, room("2"), x -> x.put(6, 0, 0, 0));
        answers("joints", 3, room("3"), x -> x.put(7, 0, 0, 1));
        answers("left of it", 3, room("0,1,6"), x -> x.put(5, 0, 0, 2));
        answers("right of it", 3, room("0,1,6"), x -> x.put(5, 0, 0, 1));
        answers("not beside it", 0, room("0,1,6"), x -> x.put(5, 0, 0, 3));
        answers("with another line's end", 0, room("0,1/6"), x -> x.put(5, 0, 1, 0));
    }

    /** 0 and 4, two things, are left side by side. */
    private static MagnetPoems gap() {
        MagnetPoems x = Rooms.with("0,1,4");
        x.takeOff(1);
        return x;
    }

    void promise02SameKindsElsewhereOnTheLine() {
        answers("behind them", 3, WordsEdgesTest::gap, x -> x.put(9, 0, 0, 2));
        answers("ahead of them", 3, WordsEdgesTest::gap, x -> x.put(9, 0, 0, 0));
        answers("between them", 0, WordsEdgesTest::gap, x -> x.put(9, 0, 0, 1));
        answers("on another line", 0, WordsEdgesTest::gap, x -> x.put(9, 0, 1, 0));
    }

    void promise02JointsAtEnds() {
        answers("allowed alone", 0, room(), x -> x.put(3, 0, 0, 0));
        answers("allowed first", 0, room("0,1"), x -> x.put(3, 0, 0, 0));
        answers("allowed last", 0, room("0,1"), x -> x.put(3, 0, 0, 2));
        answers("alone", 4, strict(), x -> x.put(3, 0, 0, 0));
        answers("first", 4, strict("0,1"), x -> x.put(3, 0, 0, 0));
        answers("last", 4, strict("0,1"), x -> x.put(3, 0, 0, 2));
        answers("between", 0, strict("0,1"), x -> x.put(3, 0, 0, 1));
        answers("a word that is no joint", 0, strict("0,1"), x -> x.put(2, 0, 0, 2));
        answers("allowed again", 0, () -> Rooms.set(strict("0,1").make(), 0, 0), x -> x.put(3, 0, 0, 2));
    }

    void promise02JointsAtEndsOnlyOfTheWordItself() {
        answers("between joints at ends", 0, strict("3,0,7"), x -> x.put(1, 0, 0, 1));
        answers("ahead of a joint", 0, strict("3,0,7"), x -> x.put(1, 0, 0, 0));
        answers("behind a joint", 0, strict("3,0,7"), x -> x.put(1, 0, 0, 3));
    }

    void promise02TheFirstReasonThatIsSo() {
        answers("full, and 13 beats", 1, room("0,1,10,7,12,13"), x -> x.put(2, 0, 0, 6));
        answers("full, and same kinds", 1, room("0,9,6,3,12,21"), x -> x.put(33, 0, 0, 6));
        answers("full, and a joint at an end", 1, strict("0,9,6,3,12,21"), x -> x.put(15, 0, 0, 6));
        answers("full, and all else", 1, strict("0,1,10,12,13,7"), x -> x.put(11, 0, 0, 6));
        answers("13 beats, and same kinds", 2, room("5,8,14,2"), x -> x.put(0, 0, 0, 1));
        answers("13 beats, and a joint at an end", 2, strict("5,8,14,2"), x -> x.put(3, 0, 0, 4));
        answers("13 beats, and both", 2, strict("5,8,14,11"), x -> x.put(3, 0, 0, 4));
        answers("same kinds, and a joint at an end", 3, strict("7,0"), x -> x.put(3, 0, 0, 0));
    }

    void promise02RefusedChangesOnlyWhatIsRefusedAndSaved() {
        changes("a put that is refused", () -> Rooms.with("0,1", "8"), x -> x.put(5, 0, 0, 2), "count 5", "count 8");
        changes("one more", Rooms::livedIn, x -> x.put(5, 0, 0, 1), "count 5");
        changes("one of a joint", strict("0,1"), x -> x.put(3, 0, 0, 2), "count 5", "count 8");
    }

    void promise02EachReasonIsCounted() {
        MagnetPoems x = strict("0,9,6,3,12,21/5,8,14,2/1").make();
        due("full", x.put(18, 0, 0, 6), 1);
        due("13 beats", x.put(15, 0, 1, 2), 2);
        due("same kinds", x.put(13, 0, 2, 0), 3);
        due("a joint", x.put(15, 0, 3, 0), 4);
        due("refused", x.count(5), 4);
        due("put", x.count(4), 11);
    }

    void promise02StandsIsCountedAsPut() {
        MagnetPoems x = Rooms.with("0,1");
        x.put(2, 3, 3, 0);
        due("put", x.count(4), 3);
        due("refused", x.count(5), 0);
        due("in the bag", x.count(0), 37);
        due("in the bag by lines", x.count(1), 37);
    }

    void promise02CanBeUndone() {
        canBeUndone("put", Rooms::loan, x -> x.put(18, 0, 0, 0));
        canBeUndone("put that is refused", Rooms::loan, x -> x.put(16, 0, 0, 0));
    }

    // ---- promise 3

    void promise03FirstAndLastWord() {
        for (int word : new int[] {0, 39}) {
            MagnetPoems x = Rooms.line(Rooms.bare(), 3, 3, word);
            due("takeOff " + word, x.takeOff(word), 33);
            due("in the bag", x.count(0), 40);
            due("nowhere", x.wordOf(word, 3), NONE);
            dueDoor(x, 3, "///");
        }
    }

    void promise03AnswersTheDoorAndTheLine() {
        MagnetPoems x = Rooms.sixteenLines();
        for (int word = 0; word < 16; word++) {
            due("takeOff " + word, x.takeOff(word), 10 * (word / 4) + word % 4);
        }
        due("in the bag", x.count(0), 40);
    }

    void promise03TheOthersCloseUp() {
        for (int place = 0; place < 6; place++) {
            MagnetPoems x = Rooms.with("0,9,6,3,12,21");
            int word = x.at(0, 0, place);
            x.takeOff(word);
            dueDoor(x, 0, "0,9,6,3,12,21".replace(place == 5 ? "," + word : word + ",", "") + "///");
            due("no word at place 5", x.at(0, 0, 5), NONE);
        }
    }

    void promise03WordOutOfRange() {
        refusesOutside(0, 39, INDEX, Rooms::livedIn, (x, word) -> x.takeOff(word));
    }

    void promise03WordInTheBag() {
        refuses("never put", STATE, Rooms::livedIn, x -> x.takeOff(38));
        refuses("stolen", STATE, Rooms::livedIn, x -> x.takeOff(5));
        refuses("taken off already", STATE, WordsEdgesTest::gap, x -> x.takeOff(1));
        for (int word = 0; word < 40; word++) {
            int number = word;
            refuses("a full bag", STATE, Rooms::bare, x -> x.takeOff(number));
            answers("an empty bag", 10 * (word / 4 % 4) + (word + word / 16) % 4, Rooms::emptyBag,
                    x -> x.takeOff(number));
        }
    }

    void promise03NothingIsRefusedForKinds() {
        due("same kinds left side by side", gap().lineOf(0, 0, 7), 0);
        due("nothing refused", gap().count(5), 0);
        due("nothing put", gap().count(4), 3);
        answers("joints left at an end", 0, strict("0,3,1"), x -> x.takeOff(1));
    }

    void promise03CanBeUndone() {
        canBeUndone("takeOff", Rooms::loan, x -> x.takeOff(0));
        canBeUndone("takeOff of the lender's last word", Rooms::loan, x -> x.takeOff(13));
    }

    // ---- promise 4

    void promise04FirstAndLastWord() {
        for (int word : new int[] {0, 39}) {
            MagnetPoems x = Rooms.line(Rooms.bare(), 0, 0, word);
            due("move " + word, x.move(word, 3, 3), 0);
            due("there", x.at(3, 3, 0), word);
            due("not here", x.at(0, 0, 0), NONE);
        }
    }

    void promise04EachLineOfEachDoor() {
        MagnetPoems x = Rooms.with("0");
        for (int line = 1; line < 16; line++) {
            due("move to " + line, x.move(0, line / 4, line % 4), 0);
            due("there", x.at(line / 4, line % 4, 0), 0);
            due("one word in all", x.count(1), 39);
        }
        due("the same line of another door", x.move(0, 2, 3), 0);
        due("another line of its door", x.move(0, 2, 0), 0);
    }

    void promise04BehindTheLastWord() {
        MagnetPoems x = Rooms.with("0,1,2", "5,8");
        due("move", x.move(1, 1, 0), 0);
        dueDoor(x, 0, "0,2///");
        dueDoor(x, 1, "5,8,1///");
    }

    void promise04WordOutOfRange() {
        refusesOutside(0, 39, INDEX, Rooms::livedIn, (x, word) -> x.move(word, 0, 3));
    }

    void promise04DoorOutOfRange() {
        refusesOutside(0, 3, INDEX, Rooms::livedIn, (x, door) -> x.move(0, door, 3));
    }

    void promise04LineOutOfRange() {
        refusesOutside(0, 3, INDEX, Rooms::livedIn, (x, line) -> x.move(0, 0, line));
    }

    void promise04WordInTheBag() {
        refuses("never put", STATE, Rooms::livedIn, x -> x.move(38, 0, 3));
        refuses("stolen", STATE, Rooms::livedIn, x -> x.move(8, 0, 3));
        refuses("to a full line", STATE, room("0,9,6,3,12,21"), x -> x.move(18, 0, 0));
    }

    void promise04WordOnThisLine() {
        refuses("first", STATE, Rooms::livedIn, x -> x.move(0, 0, 0));
        refuses("last", STATE, Rooms::livedIn, x -> x.move(1, 0, 0));
        refuses("alone", STATE, Rooms::livedIn, x -> x.move(39, 3, 0));
        refuses("on a full line", STATE, room("0,9,6,3,12,21"), x -> x.move(21, 0, 0));
    }

    void promise04NoSuchLineComesBeforeInTheBag() {
        refuses("door, word in the bag", INDEX, Rooms::livedIn, x -> x.move(38, 4, 0));
        refuses("line, word in the bag", INDEX, Rooms::livedIn, x -> x.move(38, 0, 4));
        refuses("line, word on this door", INDEX, Rooms::livedIn, x -> x.move(0, 0, -1));
    }

    void promise04SixWordsAndOneMore() {
        answers("the sixth one", 0, room("0,9,6,3,12/21"), x -> x.move(21, 0, 0));
        answers("a seventh one", 1, room("0,9,6,3,12,21/18"), x -> x.move(18, 0, 0));
    }

    void promise04TwelveBeatsAndOneMore() {
        answers("12 beats", 0, room("5,8,14,4", "21"), x -> x.move(21, 0, 0));
        answers("13 beats", 2, room("5,8,14,4", "25"), x -> x.move(25, 0, 0));
        answers("the beats of its own line", 0, room("5,8,14,2/9"), x -> x.move(2, 0, 1));
    }

    void promise04SameKindsAndJoints() {
        answers("same kinds", 3, room("0,1/5"), x -> x.move(5, 0, 0));
        answers("colours", 0, room("0,2/6"), x -> x.move(6, 0, 0));
        answers("same kinds elsewhere", 3, () -> Rooms.line(gap(), 1, 0, 9), x -> x.move(9, 0, 0));
        answers("a joint last", 4, strict("0,1/5,3,8"), x -> x.move(3, 0, 0));
        answers("a joint alone", 4, strict("0,1/5,3,8"), x -> x.move(3, 2, 0));
        answers("a joint last, allowed", 0, room("0,1/5,3,8"), x -> x.move(3, 0, 0));
        answers("same kinds left behind", 0, room("0,1,4", "8"), x -> x.move(1, 1, 0));
    }

    void promise04TheFirstReasonThatIsSo() {
        answers("full, and 13 beats", 1, room("0,1,10,7,12,13", "2"), x -> x.move(2, 0, 0));
        answers("full, and all else", 1, strict("0,1,10,12,13,7", "11"), x -> x.move(11, 0, 0));
        answers("13 beats, and same kinds", 2, room("5,8,14,20", "0"), x -> x.move(0, 0, 0));
        answers("same kinds, and a joint", 3, strict("0,7", "3"), x -> x.move(3, 0, 0));
    }

    void promise04RefusedChangesOnlyWhatIsRefusedAndSaved() {
        changes("a move that is refused", room("0,1/5"), x -> x.move(5, 0, 0), "count 5", "count 8");
        changes("one more", Rooms::livedIn, x -> x.move(9, 0, 0), "count 5");
        changes("one with a loan", Rooms::loan, x -> x.move(5, 0, 0), "count 5", "count 8");
    }

    void promise04StandsIsCountedAsPut() {
        MagnetPoems x = Rooms.with("0,1", "6");
        x.move(6, 0, 0);
        due("put", x.count(4), 4);
        due("refused", x.count(5), 0);
        due("in the bag", x.count(0), 37);
        due("in the bag by lines", x.count(1), 37);
    }

    void promise04CanBeUndone() {
        canBeUndone("move", Rooms::loan, x -> x.move(0, 3, 3));
        canBeUndone("move to the lender", Rooms::loan, x -> x.move(0, 1, 1));
        canBeUndone("move that is refused", Rooms::loan, x -> x.move(5, 0, 0));
    }

    // ---- promise 5

    void promise05FirstAndLastDoor() {
        for (int door : new int[] {0, 3}) {
            MagnetPoems x = Rooms.sixteenLines();
            due("clearDoor " + door, x.clearDoor(door), 4);
            for (int other = 0; other < 4; other++) {
                due("words of door " + other, x.doorOf(other, 1), other == door ? 0 : 4);
            }
            due("in the bag", x.count(0), 28);
        }
    }

    void promise05FullDoor() {
        MagnetPoems x = Rooms.fullDoor(2);
        due("words", x.doorOf(2, 1), 24);
        due("clearDoor", x.clearDoor(2), 24);
        dueDoor(x, 2, "///");
        due("in the bag", x.count(0), 40);
        due("in the bag by lines", x.count(1), 40);
    }

    void promise05BareDoor() {
        answers("a bare one", 0, Rooms::bare, x -> x.clearDoor(0));
        changes("a bare one", Rooms::loan, x -> x.clearDoor(3), "count 8");
        answers("again", 0, () -> {
            MagnetPoems x = Rooms.with("0,1");
            x.clearDoor(0);
            return x;
        }, x -> x.clearDoor(0));
    }

    void promise05DoorOutOfRange() {
        refusesOutside(0, 3, INDEX, Rooms::livedIn, (x, door) -> x.clearDoor(door));
    }

    void promise05WhatIsCountedOfTheDoorStays() {
        MagnetPoems x = Rooms.set(Rooms.set(Rooms.with("5,8"), 1, 0), 2, 9);
        x.sleep(1);
        x.clearDoor(0);
        due("watched yet", x.doorOf(0, 3), 9);
        due("stolen from it", x.doorOf(0, 4), 1);
        due("put so far", x.count(4), 2);
        due("stolen so far", x.count(3), 1);
    }

    void promise05CanBeUndone() {
        canBeUndone("clearDoor of the borrower", Rooms::loan, x -> x.clearDoor(0));
        canBeUndone("clearDoor of the lender", Rooms::loan, x -> x.clearDoor(1));
        canBeUndone("clearDoor of a bare one", Rooms::loan, x -> x.clearDoor(2));
        canBeUndone("clearDoor of a full one", () -> {
            MagnetPoems x = Rooms.fullDoor(0);
            x.undo();
            x.undo();
            return x;
        }, x -> x.clearDoor(0));
    }
}
