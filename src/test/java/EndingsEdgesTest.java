/** Edges of promises 6 and 7: endings that are lent and brought back. */
public final class EndingsEdgesTest extends Edges {
    public static void main(String[] args) {
        run(new EndingsEdgesTest());
    }

    private static Room room(String... poems) {
        return () -> Rooms.with(poems);
    }

    // ---- promise 6

    void promise06FirstAndLastLine() {
        answers("the first of the last", 3, Rooms::sixteenLines, x -> x.borrow(0, 0, 3, 3));
        answers("the last of the first", 0, Rooms::sixteenLines, x -> x.borrow(3, 3, 0, 0));
    }

    void promise06EachLineAsBorrowerAndAsLender() {
        for (int i = 0; i < 16; i++) {
            MagnetPoems x = Rooms.sixteenLines();
            int line = i;
            int other = (i + 5) % 16;
            due("borrow", x.borrow(line / 4, line % 4, other / 4, other % 4), other / 4);
            due("ending", x.lineOf(line / 4, line % 4, 3), other / 4);
            due("lender", x.lineOf(line / 4, line % 4, 4), 10 * (other / 4) + other % 4);
            due("borrower", x.lineOf(other / 4, other % 4, 5), 10 * (line / 4) + line % 4);
            due("lent", x.count(6), 1);
        }
    }

    void promise06EachEnding() {
        int[] words = {1, 5, 9, 13, 17};
        for (int ending = 0; ending < words.length; ending++) {
            int word = words[ending];
            answers("of " + word, ending, () -> Rooms.line(Rooms.with("0"), 1, 0, word), x -> x.borrow(0, 0, 1, 0));
        }
    }

    void promise06EndingOfTheLastWord() {
        answers("not of the first one", 1, room("0", "8,13,4"), x -> x.borrow(0, 0, 1, 0));
        answers("the same ending", 0, room("0", "1"), x -> x.borrow(0, 0, 1, 0));
    }

    void promise06DoorOutOfRange() {
        refusesOutside(0, 3, INDEX, Rooms::livedIn, (x, door) -> x.borrow(door, 1, 2, 3));
    }

    void promise06LineOutOfRange() {
        refusesOutside(0, 3, INDEX, Rooms::livedIn, (x, line) -> x.borrow(0, line, 2, 3));
    }

    void promise06FromDoorOutOfRange() {
        refusesOutside(0, 3, INDEX, Rooms::livedIn, (x, door) -> x.borrow(0, 1, door, 3));
    }

    void promise06FromLineOutOfRange() {
        refusesOutside(0, 3, INDEX, Rooms::livedIn, (x, line) -> x.borrow(0, 1, 2, line));
        answers("with lines that are there", 4, Rooms::livedIn, x -> x.borrow(0, 1, 2, 3));
    }

    void promise06BothDoorsTheSame() {
        for (int door = 0; door < 4; door++) {
            int same = door;
            refuses("another line", ARGUMENT, Rooms::sixteenLines, x -> x.borrow(same, 0, same, 1));
            refuses("this line", ARGUMENT, Rooms::sixteenLines, x -> x.borrow(same, 3, same, 3));
        }
    }

    void promise06NoSuchLineComesBeforeTheSameDoor() {
        refuses("door below", INDEX, Rooms::livedIn, x -> x.borrow(-1, 0, -1, 0));
        refuses("door above", INDEX, Rooms::livedIn, x -> x.borrow(4, 0, 4, 0));
        refuses("line", INDEX, Rooms::livedIn, x -> x.borrow(0, 4, 0, 0));
        refuses("line that lends", INDEX, Rooms::livedIn, x -> x.borrow(0, 0, 0, 4));
    }

    void promise06NoSuchLineComesBeforeNoWords() {
        refuses("a bare line of no door", INDEX, Rooms::bare, x -> x.borrow(0, 0, 4, 0));
        refuses("a bare line of no line", INDEX, Rooms::bare, x -> x.borrow(0, 0, 1, -1));
    }

    void promise06TheSameDoorComesBeforeNoWords() {
        refuses("bare lines", ARGUMENT, Rooms::livedIn, x -> x.borrow(3, 2, 3, 1));
        refuses("lines that borrow", ARGUMENT, Rooms::livedIn, x -> x.borrow(0, 0, 0, 1));
        refuses("lines that lend", ARGUMENT, Rooms::livedIn, x -> x.borrow(1, 1, 1, 0));
    }

    void promise06OneOfBothHasNoWords() {
        refuses("it borrows", STATE, room("0,1", "8"), x -> x.borrow(0, 1, 1, 0));
        refuses("it lends", STATE, room("0,1", "8"), x -> x.borrow(0, 0, 1, 1));
        refuses("both", STATE, Rooms::bare, x -> x.borrow(0, 0, 1, 0));
        answers("neither", 2, room("0,1", "8"), x -> x.borrow(0, 0, 1, 0));
    }

    void promise06OneAtATime() {
        refuses("borrows already", STATE, Rooms::loan, x -> x.borrow(0, 0, 1, 0));
        refuses("borrows this already", STATE, Rooms::loan, x -> x.borrow(0, 0, 1, 1));
        refuses("lends already", STATE, Rooms::loan, x -> x.borrow(0, 1, 1, 1));
        refuses("what borrows does not lend", STATE, Rooms::loan, x -> x.borrow(1, 0, 0, 0));
        refuses("what lends does not borrow", STATE, Rooms::loan, x -> x.borrow(1, 1, 0, 1));
        refuses("not from one another", STATE, Rooms::loan, x -> x.borrow(1, 1, 0, 0));
        answers("two others", 2, Rooms::loan, x -> x.borrow(0, 1, 1, 0));
        answers("two others, the other way", 1, Rooms::loan, x -> x.borrow(1, 0, 0, 1));
    }

    void promise06TheMostLoans() {
        Room eight = () -> {
            MagnetPoems x = Rooms.sixteenLines();
            for (int line = 0; line < 8; line++) {
                x.borrow(line / 4, line % 4, line / 4 + 2, line % 4);
            }
            return x;
        };
        answers("lent", 8, eight, x -> x.count(6));
        refuses("one more", STATE, eight, x -> x.borrow(0, 0, 3, 3));
        refuses("one more of lenders", STATE, eight, x -> x.borrow(2, 0, 3, 3));
        answers("after a clearDoor of borrowers", 4, () -> after(eight, x -> x.clearDoor(0)), x -> x.count(6));
        answers("after a clearDoor of lenders", 4, () -> after(eight, x -> x.clearDoor(2)), x -> x.count(6));
    }

    void promise06WhatALoanChanges() {
        changes("a loan", room("0", "1"), x -> x.borrow(0, 0, 1, 0), "lineOf 0 0 4", "lineOf 1 0 5", "count 6",
                "count 8");
        changes("a loan that rhymes", room("0/5", "6"), x -> x.borrow(0, 0, 1, 0), "lineOf 0 0 3", "lineOf 0 0 4",
                "lineOf 0 0 6", "lineOf 0 1 6", "lineOf 1 0 5", "count 6", "count 7", "count 8", "doorOf 0 0",
                "doorOf 0 2", "bestWord 0 1", "bestWord 0 2", "bestWord 0 3", "ifSlept 3 0");
    }

    void promise06CanBeUndone() {
        canBeUndone("borrow", Rooms::lending, x -> x.borrow(0, 0, 1, 1));
        canBeUndone("borrow beside another loan", Rooms::loan, x -> x.borrow(1, 0, 0, 1));
    }

    // ---- when it comes back

    private void stays(String call, Use use) {
        MagnetPoems x = after(Rooms::loan, use);
        due("lent behind " + call, x.count(6), 1);
        due("lender behind " + call, x.lineOf(0, 0, 4), 11);
        due("borrower behind " + call, x.lineOf(1, 1, 5), 0);
        due("ending behind " + call, x.lineOf(0, 0, 3), 3);
    }

    private void comesBack(String call, int ending, Use use) {
        MagnetPoems x = after(Rooms::loan, use);
        due("lent behind " + call, x.count(6), 0);
        due("lender behind " + call, x.lineOf(0, 0, 4), NONE);
        due("borrower behind " + call, x.lineOf(1, 1, 5), NONE);
        due("ending behind " + call, x.lineOf(0, 0, 3), ending);
    }

    void promise06ComesBackIfTheBorrowerGetsAWord() {
        comesBack("put ahead", 0, x -> x.put(18, 0, 0, 0));
        comesBack("put between", 0, x -> x.put(18, 0, 0, 1));
        comesBack("put behind", 4, x -> x.put(18, 0, 0, 2));
        comesBack("move behind", 1, x -> x.move(4, 0, 0));
        comesBack("move from the lender", 3, x -> x.move(12, 0, 0));
    }

    void promise06ComesBackIfTheBorrowerLosesAWord() {
        comesBack("takeOff of the first", 0, x -> x.takeOff(0));
        comesBack("takeOff of the last", 0, x -> x.takeOff(1));
        comesBack("move off", 0, x -> x.move(0, 3, 0));
        comesBack("move to the lender", 0, x -> x.move(0, 1, 1));
        comesBack("clearDoor", NONE, x -> x.clearDoor(0));
        comesBack("load", 0, x -> {
            Rooms.load(x, 0, "0,1/4,5");
            return 0;
        });
    }

    void promise06ComesBackIfTheLenderHasAnotherLastWord() {
        comesBack("put behind", 0, x -> x.put(18, 1, 1, 2));
        comesBack("put behind, of the same ending", 0, x -> x.put(14, 1, 1, 2));
        comesBack("move behind", 0, x -> x.move(4, 1, 1));
        comesBack("takeOff of the last, the same ending before it", 0, x -> x.takeOff(13));
        comesBack("move of the last", 0, x -> x.move(13, 2, 0));
        comesBack("move of the last to the borrower's door", 0, x -> x.move(13, 0, 2));
    }

    void promise06ComesBackIfTheLenderHasNoWord() {
        comesBack("takeOff of both", 0, x -> x.takeOff(12) + x.takeOff(13));
        comesBack("clearDoor", 0, x -> x.clearDoor(1));
        comesBack("load of the same words", 0, x -> {
            Rooms.load(x, 1, "8,9/12,13");
            return 0;
        });
        Room alone = () -> after(room("0", "8"), x -> x.borrow(0, 0, 1, 0));
        answers("takeOff of the only one", 0, () -> after(alone, x -> x.takeOff(8)), x -> x.count(6));
    }

    void promise06StaysIfTheLenderKeepsItsLastWord() {
        stays("put ahead", x -> x.put(2, 1, 1, 0));
        stays("put between", x -> x.put(2, 1, 1, 1));
        stays("takeOff of the first", x -> x.takeOff(12));
        stays("move of the first", x -> x.move(12, 3, 0));
    }

    void promise06StaysIfOthersChange() {
        stays("put on the borrower's door", x -> x.put(2, 0, 1, 0));
        stays("put on the lender's door", x -> x.put(2, 1, 0, 0));
        stays("takeOff beside the borrower", x -> x.takeOff(5));
        stays("takeOff beside the lender", x -> x.takeOff(9));
        stays("clearDoor of another", x -> x.clearDoor(2));
        stays("set", x -> x.set(0, 1));
        stays("write and keep", x -> x.write(0) + x.keep(0));
    }

    void promise06StaysIfAWordIsRefused() {
        stays("a put on the borrower", x -> x.put(16, 0, 0, 0));
        stays("a put behind the lender", x -> x.put(17, 1, 1, 2));
        stays("a move to the borrower", x -> x.move(5, 0, 0));
        stays("a move of the lender's last word", x -> x.move(13, 0, 0));
    }

    void promise06ComesBackByATheft() {
        Room lender = () -> after(() -> Rooms.set(Rooms.with("0,1", "9,8"), 1, 0), x -> x.borrow(0, 0, 1, 0));
        answers("the lender's last word is stolen", 8, lender, x -> x.prey());
        answers("it comes back", 0, () -> after(lender, x -> x.sleep(1)), x -> x.count(6));
        answers("with its own ending", 0, () -> after(lender, x -> x.sleep(1)), x -> x.lineOf(0, 0, 3));
        Room first = () -> after(() -> Rooms.set(Rooms.with("0,1", "8,9"), 1, 0), x -> x.borrow(0, 0, 1, 0));
        answers("the lender's first word is stolen", 8, first, x -> x.prey());
        answers("it stays", 1, () -> after(first, x -> x.sleep(1)), x -> x.count(6));
        Room borrower = () -> after(() -> Rooms.set(Rooms.with("2,5", "9"), 1, 0), x -> x.borrow(0, 0, 1, 0));
        answers("the borrower's word is stolen", 2, borrower, x -> x.prey());
        answers("it comes back, too", 0, () -> after(borrower, x -> x.sleep(1)), x -> x.count(6));
    }

    void promise06TheDoorIsJudgedByTheLoanWhileItLasts() {
        Room rhyming = () -> after(room("0/5", "6,9,4"), x -> x.borrow(0, 0, 1, 0));
        answers("a rhyme", 1 + 3 + 4, rhyming, x -> x.doorOf(0, 0));
        answers("none behind it", 1 + 3, () -> after(rhyming, x -> x.bringBack(0, 0)), x -> x.doorOf(0, 0));
        answers("none behind a theft", 1 + 3, () -> Rooms.set(rhyming.make(), 1, 0), x -> x.ifSlept(1, 0));
    }

    // ---- promise 7

    void promise07FirstAndLastLine() {
        answers("first", 0, () -> after(Rooms::sixteenLines, x -> x.borrow(0, 0, 3, 3)), x -> x.bringBack(0, 0));
        answers("last", 3, () -> after(Rooms::sixteenLines, x -> x.borrow(3, 3, 0, 0)), x -> x.bringBack(3, 3));
    }

    void promise07AnswersItsOwnEnding() {
        MagnetPoems x = Rooms.loan();
        due("bringBack", x.bringBack(0, 0), 0);
        due("ending", x.lineOf(0, 0, 3), 0);
        due("lent", x.count(6), 0);
        due("no lender", x.lineOf(0, 0, 4), NONE);
        due("no borrower", x.lineOf(1, 1, 5), NONE);
    }

    void promise07OnlyThisLoan() {
        MagnetPoems x = after(Rooms::loan, y -> y.borrow(1, 0, 0, 1));
        due("bringBack", x.bringBack(1, 0), 2);
        due("lent", x.count(6), 1);
        due("the other lender", x.lineOf(0, 0, 4), 11);
    }

    void promise07DoorOutOfRange() {
        refusesOutside(0, 3, INDEX, Rooms::livedIn, (x, door) -> x.bringBack(door, 0));
    }

    void promise07LineOutOfRange() {
        refusesOutside(0, 3, INDEX, Rooms::livedIn, (x, line) -> x.bringBack(0, line));
    }

    void promise07DoesNotBorrow() {
        refuses("a bare line", STATE, Rooms::livedIn, x -> x.bringBack(3, 3));
        refuses("a line with words", STATE, Rooms::livedIn, x -> x.bringBack(0, 1));
        refuses("a line that lends", STATE, Rooms::livedIn, x -> x.bringBack(1, 0));
        refuses("brought back already", STATE, () -> after(Rooms::loan, x -> x.bringBack(0, 0)),
                x -> x.bringBack(0, 0));
        refuses("come back already", STATE, () -> after(Rooms::loan, x -> x.takeOff(13)), x -> x.bringBack(0, 0));
    }

    void promise07BothAreFreeThen() {
        Room free = () -> after(Rooms::loan, x -> x.bringBack(0, 0));
        answers("the borrower borrows", 2, free, x -> x.borrow(0, 0, 1, 0));
        answers("the same again", 3, free, x -> x.borrow(0, 0, 1, 1));
        answers("the borrower lends", 0, free, x -> x.borrow(1, 0, 0, 0));
        answers("the lender lends", 3, free, x -> x.borrow(0, 1, 1, 1));
        answers("the lender borrows", 0, free, x -> x.borrow(1, 1, 0, 0));
    }

    void promise07CanBeUndone() {
        canBeUndone("bringBack", Rooms::loan, x -> x.bringBack(0, 0));
        Room two = () -> after(Rooms::loan, x -> x.borrow(1, 0, 0, 1));
        canBeUndone("bringBack beside another loan", two, x -> x.bringBack(1, 0));
    }
}
