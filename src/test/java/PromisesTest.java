/** Each promise of the document by itself, with answers reckoned by hand. */
public final class PromisesTest {
    private static final Class<IndexOutOfBoundsException> INDEX = IndexOutOfBoundsException.class;
    private static final Class<IllegalArgumentException> ARGUMENT = IllegalArgumentException.class;
    private static final Class<IllegalStateException> STATE = IllegalStateException.class;
    private static final int NONE = MagnetPoems.NONE;
    private static final int MIN = Integer.MIN_VALUE;
    private static final int MAX = Integer.MAX_VALUE;

    private static final Checks CHECKS = new Checks();

    private static void due(String call, long got, long want) {
        CHECKS.due(call, got, want);
    }

    /** A call that throws changes nothing: the digest stands for all that can be seen. */
    private static void dueThrow(MagnetPoems x, String call, Class<? extends RuntimeException> want,
            Checks.Call made) {
        long before = x.digest();
        CHECKS.dueThrow(call, want, made);
        due("digest behind " + call, x.digest(), before);
    }

    private static void type(MagnetPoems x, String text) {
        for (char code : text.toCharArray()) {
            x.append(code);
        }
    }

    /** Puts the words of a poem on a door; each must stand. */
    private static MagnetPoems with(MagnetPoems x, int door, String poem) {
        x.clearBuffer();
        type(x, poem);
        due("load of " + poem, x.load(door), poem.split("[,/]").length);
        return x;
    }

    private static MagnetPoems with(String poem) {
        return with(new MagnetPoems(), 0, poem);
    }

    private static String buffer(MagnetPoems x, int door) {
        StringBuilder text = new StringBuilder();
        for (int line = 0; line < 4; line++) {
            text.append(line == 0 ? "" : "/");
            for (int place = 0; place < 6 && x.at(door, line, place) != NONE; place++) {
                text.append(place == 0 ? "" : ",").append(x.at(door, line, place));
            }
        }
        return text.toString();
    }

    private static void dueDoor(String call, MagnetPoems x, int door, String want) {
        CHECKS.dueOutcome(call, buffer(x, door), want);
    }

    private static void promise1NewObject() {
        MagnetPoems x = new MagnetPoems();
        for (int what = 0; what < 9; what++) {
            due("new: count " + what, x.count(what), what < 2 ? 40 : 0);
        }
        for (int door = 0; door < 4; door++) {
            dueDoor("new door", x, door, "///");
        }
        due("new: joints", x.setting(0), 0);
        due("new: rich", x.setting(1), 20);
        due("new: watched", x.setting(2), 1);
        due("new: buffer", x.clearBuffer(), 0);
        dueThrow(x, "new: slot 0", STATE, () -> x.goBack(0));
        dueThrow(x, "new: slot 1", STATE, () -> x.goBack(1));
        dueThrow(x, "new: undo", STATE, x::undo);
    }

    private static void promise2Put() {
        MagnetPoems x = new MagnetPoems();
        due("put first", x.put(0, 1, 2, 0), 0);
        due("put behind", x.put(1, 1, 2, 1), 0);
        due("put ahead", x.put(2, 1, 2, 0), 0);
        due("put between", x.put(6, 1, 2, 1), 0);
        dueDoor("put", x, 1, "//2,6,0,1/");
        due("same kinds behind", x.put(5, 1, 2, 4), 3);
        due("same kinds ahead", x.put(4, 1, 2, 2), 3);
        due("same kinds right of it", x.put(8, 1, 2, 3), 3);
        due("put counts", x.count(4), 4);
        due("refused counts", x.count(5), 3);
        due("in the bag", x.count(0), 36);
        due("in the bag by lines", x.count(1), 36);
        due("saved", x.count(8), 6);
        due("a refused put is undone", x.undo(), 5);
        due("refused then", x.count(5), 2);
    }

    private static void promise2PutWrong() {
        MagnetPoems x = with("0,1");
        dueThrow(x, "put word -1", INDEX, () -> x.put(-1, 0, 0, 0));
        dueThrow(x, "put word 40", INDEX, () -> x.put(40, 0, 0, 0));
        dueThrow(x, "put door -1", INDEX, () -> x.put(2, -1, 0, 0));
        dueThrow(x, "put door 4", INDEX, () -> x.put(2, 4, 0, 0));
        dueThrow(x, "put line -1", INDEX, () -> x.put(2, 0, -1, 0));
        dueThrow(x, "put line 4", INDEX, () -> x.put(2, 0, 4, 0));
        dueThrow(x, "put place -1", INDEX, () -> x.put(2, 0, 0, -1));
        dueThrow(x, "put place 3", INDEX, () -> x.put(2, 0, 0, 3));
        dueThrow(x, "put far", INDEX, () -> x.put(MAX, MIN, MAX, MIN));
        dueThrow(x, "put from a door", STATE, () -> x.put(0, 0, 1, 0));
        dueThrow(x, "put from this line", STATE, () -> x.put(0, 0, 0, 2));
        dueThrow(x, "put from a door, no place", INDEX, () -> x.put(0, 0, 1, 1));
    }

    private static void reasonsInOrder() {
        MagnetPoems full = with("0,1,6,3,12,9");
        due("full and much else", full.whyNot(5, 0, 0, 6), 1);
        due("full put", full.put(15, 0, 0, 6), 1);
        MagnetPoems beats = with("5,8,14,2");
        due("12 beats stand", beats.lineOf(0, 0, 1), 12);
        due("13 beats", beats.put(0, 0, 0, 4), 2);
        due("13 beats and same kinds", beats.whyNot(12, 0, 0, 1), 2);
        MagnetPoems eleven = with("5,8,14,4");
        due("11 beats", eleven.lineOf(0, 0, 1), 11);
        due("12 beats can stand", eleven.whyNot(21, 0, 0, 4), 0);
        due("13 beats cannot", eleven.whyNot(25, 0, 0, 4), 2);
        MagnetPoems joints = with("3,0");
        due("joints at ends as at first", joints.whyNot(7, 0, 0, 2), 0);
        joints.set(0, 1);
        due("joint behind", joints.put(7, 0, 0, 2), 4);
        due("joint ahead, and beside a joint", joints.whyNot(7, 0, 0, 0), 3);
        due("joint on a bare line", joints.whyNot(7, 0, 1, 0), 4);
        due("another word beside a joint at an end", joints.put(1, 0, 0, 0), 0);
        due("joint between", joints.takeOff(3), 0);
        due("joint between stands", joints.put(7, 0, 0, 1), 0);
        due("joint ahead", joints.whyNot(11, 0, 0, 0), 4);
    }

    /** The words that stand already count for the kinds, too, also where a word left a gap. */
    private static void kindsOfAllWords() {
        MagnetPoems x = with("0,1,4");
        x.takeOff(1);
        due("two things side by side", x.lineOf(0, 0, 7), 0);
        due("a word behind them", x.put(9, 0, 0, 2), 3);
        due("a word ahead of them", x.whyNot(9, 0, 0, 0), 3);
        due("a word between them", x.whyNot(9, 0, 0, 1), 0);
        due("no word behind them is best", x.bestWord(0, 0), NONE);
        MagnetPoems colours = with("2,6,10");
        due("colours side by side", colours.lineOf(0, 0, 7), 1);
        due("one more", colours.put(14, 0, 0, 1), 0);
    }

    private static void promise3TakeOff() {
        MagnetPoems x = with("0,1,2/4,5");
        due("takeOff", x.takeOff(1), 0);
        dueDoor("takeOff", x, 0, "0,2/4,5//");
        due("takeOff of line 1", x.takeOff(5), 1);
        due("put on door 3", x.put(1, 3, 2, 0), 0);
        due("takeOff of door 3", x.takeOff(1), 32);
        due("bag", x.count(0), 37);
        due("takeOff is undoable", x.undo(), 4);
        dueDoor("undone takeOff", x, 3, "//1/");
        dueThrow(x, "takeOff 40", INDEX, () -> x.takeOff(40));
        dueThrow(x, "takeOff -1", INDEX, () -> x.takeOff(-1));
        dueThrow(x, "takeOff from the bag", STATE, () -> x.takeOff(39));
    }

    private static void promise4Move() {
        MagnetPoems x = with("0,1,2/4,5");
        due("move to a line of its door", x.move(1, 0, 1), 3);
        due("refused", x.count(5), 1);
        due("move of 2", x.move(2, 0, 1), 0);
        dueDoor("move", x, 0, "0,1/4,5,2//");
        due("move to another door", x.move(4, 2, 3), 0);
        dueDoor("move away", x, 0, "0,1/5,2//");
        dueDoor("move there", x, 2, "///4");
        due("put counts moves", x.count(4), 7);
        due("saved", x.count(8), 4);
        dueThrow(x, "move 40", INDEX, () -> x.move(40, 0, 0));
        dueThrow(x, "move -1", INDEX, () -> x.move(-1, 0, 0));
        dueThrow(x, "move to door 4", INDEX, () -> x.move(0, 4, 0));
        dueThrow(x, "move to line 4", INDEX, () -> x.move(0, 0, 4));
        dueThrow(x, "move to line -1", INDEX, () -> x.move(0, 0, -1));
        dueThrow(x, "move from the bag", STATE, () -> x.move(39, 0, 0));
        dueThrow(x, "move to its line", STATE, () -> x.move(0, 0, 0));
        dueThrow(x, "move from the bag, no line", INDEX, () -> x.move(39, 0, 4));
        due("undo of a move", x.undo(), 3);
        dueDoor("undone move", x, 0, "0,1/4,5,2//");
    }

    private static void promise5ClearDoor() {
        MagnetPoems x = with(with("0,1,2/4,5"), 1, "8,9");
        due("clearDoor", x.clearDoor(0), 5);
        dueDoor("clearDoor", x, 0, "///");
        dueDoor("the other door", x, 1, "8,9///");
        due("bag", x.count(0), 38);
        due("clear a bare one", x.clearDoor(0), 0);
        due("saved, too", x.count(8), 4);
        dueThrow(x, "clearDoor 4", INDEX, () -> x.clearDoor(4));
        dueThrow(x, "clearDoor -1", INDEX, () -> x.clearDoor(-1));
    }

    /** Door 0 has the endings 0, 1; door 1 has 2, 3. */
    private static MagnetPoems lending() {
        return with(with("0,1/4,5"), 1, "8,9/12,13");
    }

    private static void promise6Borrow() {
        MagnetPoems x = lending();
        due("borrow", x.borrow(0, 0, 1, 1), 3);
        due("ending", x.lineOf(0, 0, 3), 3);
        due("lender", x.lineOf(0, 0, 4), 11);
        due("borrower", x.lineOf(1, 1, 5), 0);
        due("no lender", x.lineOf(1, 1, 4), NONE);
        due("no borrower", x.lineOf(0, 0, 5), NONE);
        due("lent now", x.count(6), 1);
        dueThrow(x, "borrow twice", STATE, () -> x.borrow(0, 0, 1, 0));
        dueThrow(x, "lend twice", STATE, () -> x.borrow(0, 1, 1, 1));
        dueThrow(x, "lend what borrows", STATE, () -> x.borrow(1, 0, 0, 0));
        dueThrow(x, "borrow for what lends", STATE, () -> x.borrow(1, 1, 0, 1));
        dueThrow(x, "borrow from a bare line", STATE, () -> x.borrow(0, 1, 2, 0));
        dueThrow(x, "borrow for a bare line", STATE, () -> x.borrow(2, 0, 0, 1));
        dueThrow(x, "borrow at home", ARGUMENT, () -> x.borrow(0, 1, 0, 0));
        dueThrow(x, "borrow at home on a bare door", ARGUMENT, () -> x.borrow(3, 1, 3, 0));
        dueThrow(x, "borrow at the home that is none", INDEX, () -> x.borrow(4, 0, 4, 0));
        dueThrow(x, "borrow at home, no line", INDEX, () -> x.borrow(0, 0, 0, 4));
        dueThrow(x, "borrow door -1", INDEX, () -> x.borrow(-1, 0, 0, 0));
        dueThrow(x, "borrow line -1", INDEX, () -> x.borrow(0, -1, 1, 0));
        dueThrow(x, "borrow from door 4", INDEX, () -> x.borrow(0, 0, 4, 0));
        dueThrow(x, "borrow from line 4", INDEX, () -> x.borrow(0, 0, 1, 4));
        due("two loans", x.borrow(1, 0, 0, 1), 1);
        due("both lent", x.count(6), 2);
        x.undo();
        due("undone", x.count(6), 1);
    }

    private static void promise7BringBack() {
        MagnetPoems x = lending();
        x.borrow(0, 0, 1, 1);
        dueThrow(x, "bringBack of the lender", STATE, () -> x.bringBack(1, 1));
        dueThrow(x, "bringBack of none", STATE, () -> x.bringBack(0, 1));
        dueThrow(x, "bringBack door 4", INDEX, () -> x.bringBack(4, 0));
        dueThrow(x, "bringBack line -1", INDEX, () -> x.bringBack(0, -1));
        due("bringBack", x.bringBack(0, 0), 0);
        due("lent now", x.count(6), 0);
        due("lends no more", x.lineOf(1, 1, 5), NONE);
        x.undo();
        due("undone: lender", x.lineOf(0, 0, 4), 11);
        due("undone: borrower", x.lineOf(1, 1, 5), 0);
        due("undone: ending", x.lineOf(0, 0, 3), 3);
    }

    private static int loansAfter(Checks.Call change, MagnetPoems x) {
        x.borrow(0, 0, 1, 1);
        change.answer();
        int loans = x.count(6);
        due("lenders and borrowers agree", x.lineOf(1, 1, 5), loans == 1 ? 0 : NONE);
        due("borrowers and lenders agree", x.lineOf(0, 0, 4), loans == 1 ? 11 : NONE);
        return loans;
    }

    private static void loansComeBack() {
        MagnetPoems a = lending();
        due("borrower gets a word ahead", loansAfter(() -> a.put(2, 0, 0, 0), a), 0);
        MagnetPoems b = lending();
        due("borrower loses a word", loansAfter(() -> b.takeOff(0), b), 0);
        MagnetPoems c = lending();
        due("borrower gets a moved word", loansAfter(() -> c.move(4, 0, 0), c), 0);
        MagnetPoems d = lending();
        due("lender gets a word ahead", loansAfter(() -> d.put(2, 1, 1, 0), d), 1);
        MagnetPoems e = lending();
        due("lender loses its first word", loansAfter(() -> e.takeOff(12), e), 1);
        MagnetPoems f = lending();
        due("lender loses its last word", loansAfter(() -> f.takeOff(13), f), 0);
        MagnetPoems g = lending();
        due("lender gets a last word of the same ending", loansAfter(() -> g.put(14, 1, 1, 2), g), 0);
        due("the same ending", g.lineOf(1, 1, 3), 3);
        MagnetPoems h = lending();
        due("a refused word", loansAfter(() -> h.put(16, 0, 0, 0), h), 1);
        MagnetPoems i = lending();
        due("lender's door is cleared", loansAfter(() -> i.clearDoor(1), i), 0);
        MagnetPoems k = lending();
        due("borrower's door is cleared", loansAfter(() -> k.clearDoor(0), k), 0);
        MagnetPoems l = lending();
        due("lender's door is loaded alike", loansAfter(() -> with(l, 1, "8,9/12,13").count(0), l), 0);
        dueDoor("loaded alike", l, 1, "8,9/12,13//");
    }

    private static void loansAtNight() {
        MagnetPoems x = with(with("0,1"), 1, "9,8");
        x.set(1, 0);
        x.borrow(0, 0, 1, 0);
        due("door 1 is richer", x.prey(), 8);
        due("stolen", x.sleep(1), 1);
        due("the lender lost its last word", x.count(6), 0);
        due("own ending", x.lineOf(0, 0, 3), 0);
        MagnetPoems y = with(with("1,0"), 1, "8,9");
        y.set(1, 0);
        y.borrow(0, 0, 1, 0);
        due("a first word is stolen", y.sleep(1), 1);
        due("the lender keeps its last word", y.count(6), 1);
        due("then the borrower", y.sleep(1), 1);
        due("loses a word", y.count(6), 0);
    }

    private static void promise8Sleep() {
        MagnetPoems x = with("2,5,8/14,17,20");
        due("worth", x.doorOf(0, 0), 28);
        due("prey", x.prey(), 14);
        due("one night", x.sleep(1), 1);
        dueDoor("stolen", x, 0, "2,5,8/17,20//");
        due("stolen how often", x.wordOf(14, 6), 1);
        due("stolen from the door", x.doorOf(0, 4), 1);
        due("watched", x.doorOf(0, 3), 1);
        due("nights", x.count(2), 1);
        due("watched: no prey", x.prey(), NONE);
        due("a night of nothing", x.sleep(1), 0);
        due("watched no more", x.doorOf(0, 3), 0);
        due("prey again", x.prey(), 17);
        due("until it is poor", x.sleep(20), 1);
        dueDoor("poor", x, 0, "2,5,8/20//");
        due("worth 17", x.doorOf(0, 0), 17);
        due("all stolen", x.count(3), 2);
        due("all nights", x.count(2), 22);
        due("in the bag", x.count(0), 36);
        x.undo();
        due("undone as one call", x.count(2), 2);
        due("undone thefts", x.wordOf(17, 6), 0);
        due("undone losses", x.doorOf(0, 4), 1);
        due("undone sum", x.count(3), 1);
        dueThrow(x, "sleep 0", ARGUMENT, () -> x.sleep(0));
        dueThrow(x, "sleep 21", ARGUMENT, () -> x.sleep(21));
        dueThrow(x, "sleep long", ARGUMENT, () -> x.sleep(MAX));
        dueThrow(x, "sleep back", ARGUMENT, () -> x.sleep(MIN));
    }

    private static void preyInOrder() {
        MagnetPoems x = with("2,1/5,0/8,9");
        due("of several the greatest line", x.prey(), 8);
        MagnetPoems y = with(with("5,8,1"), 2, "17,20,13");
        due("as rich", y.doorOf(0, 0), y.doorOf(2, 0));
        y.set(1, 12);
        due("of several doors the lowest, of several words the first", y.prey(), 5);
        y.sleep(1);
        due("then the other door", y.prey(), 17);
        MagnetPoems z = with(new MagnetPoems(), 3, "5,8,1,12");
        z.set(1, 14);
        due("at least as rich as setting 1", z.doorOf(3, 0), 14);
        due("rich enough", z.prey(), 5);
        z.set(1, 15);
        due("not rich enough", z.prey(), NONE);
        MagnetPoems bare = new MagnetPoems();
        bare.set(1, 0);
        due("bare doors", bare.prey(), NONE);
        due("nothing stolen", bare.sleep(20), 0);
        bare.put(0, 3, 0, 0);
        due("a word on the last door", bare.prey(), 0);
    }

    private static void watchedDoors() {
        MagnetPoems x = with("5,8,17,20/2,29,32");
        x.set(1, 1);
        x.set(2, 3);
        due("first night", x.sleep(1), 1);
        due("three nights watched", x.doorOf(0, 3), 3);
        x.set(2, 0);
        due("what stands stays", x.doorOf(0, 3), 3);
        due("three nights", x.sleep(3), 0);
        due("none left", x.doorOf(0, 3), 0);
        due("not watched at all", x.sleep(4), 4);
        due("none", x.doorOf(0, 3), 0);
        MagnetPoems y = with(with("5,8"), 1, "17,20");
        y.set(1, 1);
        y.set(2, 9);
        due("both doors", y.sleep(2), 2);
        due("the first one longer", y.doorOf(0, 3), 8);
        due("the second one", y.doorOf(1, 3), 9);
        due("no door left", y.sleep(8), 0);
        due("door 0 again", y.sleep(1), 1);
        due("from door 0", y.doorOf(0, 4), 2);
    }

    private static void limitOfNights() {
        MagnetPoems x = new MagnetPoems();
        for (int i = 0; i < 499; i++) {
            x.sleep(20);
        }
        due("19 more", x.sleep(19), 0);
        due("9999 nights", x.count(2), 9999);
        dueThrow(x, "a night more", STATE, () -> x.sleep(1));
        dueThrow(x, "no nights", ARGUMENT, () -> x.sleep(0));
        x.put(2, 0, 0, 0);
        x.set(1, 0);
        due("prey all the same", x.prey(), 2);
        due("ifSlept all the same", x.ifSlept(20, 0), 0);
    }

    private static void promise9Set() {
        MagnetPoems x = new MagnetPoems();
        due("set 0", x.set(0, 1), 0);
        due("set 1", x.set(1, 200), 20);
        due("set 2", x.set(2, 9), 1);
        due("set 1 again", x.set(1, 0), 200);
        due("setting 0", x.setting(0), 1);
        due("setting 1", x.setting(1), 0);
        due("setting 2", x.setting(2), 9);
        due("saved", x.count(8), 4);
        x.undo();
        due("undone", x.setting(1), 200);
        for (int setting = 0; setting < 3; setting++) {
            int number = setting;
            int greatest = new int[] {1, 200, 9}[setting];
            dueThrow(x, "set below", ARGUMENT, () -> x.set(number, -1));
            dueThrow(x, "set above", ARGUMENT, () -> x.set(number, greatest + 1));
            due("set to none", x.set(number, 0), new int[] {1, 200, 9}[setting]);
        }
        dueThrow(x, "set 3", INDEX, () -> x.set(3, 0));
        dueThrow(x, "set -1", INDEX, () -> x.set(-1, 0));
        dueThrow(x, "set 3 to -1", INDEX, () -> x.set(3, -1));
        MagnetPoems joints = with("3,0,7");
        joints.set(0, 1);
        dueDoor("what stands stays", joints, 0, "3,0,7///");
    }

    private static void promise10And11Buffer() {
        MagnetPoems x = new MagnetPoems();
        dueThrow(x, "append 32", ARGUMENT, () -> x.append(32));
        dueThrow(x, "append 127", ARGUMENT, () -> x.append(127));
        due("append 33", x.append(33), 1);
        due("append 126", x.append(126), 2);
        for (int i = 3; i <= 60; i++) {
            due("append", x.append('a'), i);
        }
        dueThrow(x, "append to a full one", STATE, () -> x.append('a'));
        dueThrow(x, "append none to a full one", ARGUMENT, () -> x.append(32));
        due("not undoable", x.count(8), 0);
        due("clearBuffer", x.clearBuffer(), 60);
        due("clearBuffer again", x.clearBuffer(), 0);
        due("append then", x.append('0'), 1);
    }

    private static void error(String text, int want) {
        MagnetPoems x = new MagnetPoems();
        type(x, text);
        due("firstError of " + text, x.firstError(), want);
    }

    private static void promise12FirstError() {
        error("", 0);
        error("0", 1);
        error("39,38/37", 8);
        error("40", 1);
        error("4,5", 3);
        error("00", 1);
        error("01", 1);
        error("100", 2);
        error(",", 0);
        error("/", 0);
        error("a", 0);
        error("1a", 1);
        error("1,,2", 2);
        error("1,/2", 2);
        error("1//2", 2);
        error("1,2,", 4);
        error("1,2/", 4);
        error("1,2,3,4,5,6,7", 11);
        error("1,2,3,4,5,6/7", 13);
        error("1/2/3/4", 7);
        error("1/2/3/4/5", 7);
        error("1/2/3/4,5,6,7,8,9,10", 17);
    }

    private static void numbersThatStandTwice() {
        error("4,4", 2);
        error("0,0", 2);
        error("1,1", 3);
        error("1,1,", 3);
        error("1,1/", 3);
        error("1,12", 4);
        error("12,1", 4);
        error("12,12", 4);
        error("12/12", 4);
        error("12,1/", 5);
        error("3,30,31,32,33,34/35,36,37,38,39,3", 32);
        error("3,30,31,32,33,34/35,36,37,38,3", 30);
        error("3,30,31,32,33,34/35,36,37,38,39,2", 33);
        error("30,31,32,33,34/35,36,37,38,39,3", 31);
        error("3,31,32,33,34,35/36,37,38,39,3", 30);
        error("2,20,21,22,23,24/25,26,27,28,29,2", 32);
        error("1,10,11,12,13,14/15,16,17,18,19,1", 32);
        error("30,31,32,33,34/35,36,37,38,39,39", 31);
    }

    private static void longBuffers() {
        StringBuilder text = new StringBuilder();
        for (int word = 10; word < 30; word++) {
            text.append(word).append(word % 6 == 3 ? '/' : ',');
        }
        error(text.toString(), 60);
        MagnetPoems x = new MagnetPoems();
        type(x, text.toString());
        dueThrow(x, "load of a half poem", ARGUMENT, () -> x.load(0));
    }

    private static void promise13Load() {
        MagnetPoems x = with("0,1,2/4,5/8");
        dueDoor("load", x, 0, "0,1,2/4,5/8/");
        due("buffer cleared", x.clearBuffer(), 0);
        due("put", x.count(4), 6);
        type(x, "20,21,4,22");
        due("its own words can be put again", x.load(0), 4);
        dueDoor("load again", x, 0, "20,21,4,22///");
        due("undo", x.undo(), 1);
        dueDoor("as one call", x, 0, "0,1,2/4,5/8/");
        due("the buffer stays cleared", x.clearBuffer(), 0);
        type(x, "20,0,21");
        due("up to one on another door", x.load(1), 1);
        dueDoor("up to it", x, 1, "20///");
        type(x, "24,25/28,12,29");
        due("up to one that cannot stand", x.load(2), 3);
        dueDoor("up to that", x, 2, "24,25/28//");
        due("no refusals", x.count(5), 0);
        due("all puts", x.count(4), 10);
        x.set(0, 1);
        type(x, "9,11,13");
        due("joints at the end, for a while", x.load(3), 1);
    }

    private static void promise13LoadWrong() {
        MagnetPoems x = with("0,1");
        String[] wrong = {"", "1,", "1/", "4,4", "1,1", "40", "01", "a", "1/2/3/4/", "12,1,1", "2x"};
        for (String text : wrong) {
            x.clearBuffer();
            type(x, text);
            dueThrow(x, "load of '" + text + "'", ARGUMENT, () -> x.load(0));
            dueThrow(x, "load of it on no door", INDEX, () -> x.load(4));
            due("the buffer stays", x.clearBuffer(), text.length());
        }
        type(x, "5");
        dueThrow(x, "load on door -1", INDEX, () -> x.load(-1));
        dueDoor("still there", x, 0, "0,1///");
    }

    private static void dueText(String call, MagnetPoems x, String want) {
        due(call + ": length", x.clearBuffer(), want.length());
    }

    private static void promise14Write() {
        MagnetPoems x = new MagnetPoems();
        type(x, "garbage");
        due("write of a bare door", x.write(0), 0);
        dueText("bare", x, "");
        with(x, 0, "0,1,39/10/8");
        x.put(16, 0, 3, 0);
        x.takeOff(10);
        type(x, "what-was-there-before");
        due("write", x.write(0), 11);
        long written = x.digest();
        x.clearBuffer();
        type(x, "0,1,39/8/16");
        due("its text", x.digest(), written);
        due("not undoable", x.count(8), 3);
        due("a first line of one character", with("5/8,39").write(0), 6);
        dueThrow(x, "write 4", INDEX, () -> x.write(4));
        dueThrow(x, "write -1", INDEX, () -> x.write(-1));
    }

    private static void longTexts() {
        MagnetPoems x = with("12,21,24,33,30,15/18,10,13,16,22");
        with(x, 1, "0");
        x.clearDoor(1);
        x.put(9, 1, 0, 0);
        int[][] more = {{27, 2}, {36, 2}, {39, 2}, {34, 2}, {28, 3}, {25, 3}, {19, 3}, {37, 3}};
        int length = 32;
        for (int[] word : more) {
            due("put " + word[0], x.put(word[0], 0, word[1], x.lineOf(0, word[1], 0)), 0);
            length += 3;
        }
        due("length 56", length, 56);
        due("write 56", x.write(0), 56);
        due("a word of one digit", x.put(1, 0, 2, 0), 0);
        due("write 58", x.write(0), 58);
        due("a word of two digits", x.put(23, 0, 3, 4), 0);
        due("write 61", x.write(0), NONE);
        x.undo();
        due("another one", x.put(3, 0, 3, 0), 0);
        due("write 60", x.write(0), 60);
        due("one more", x.put(0, 0, 2, 5), 0);
        long before = x.digest();
        due("write 62", x.write(0), NONE);
        due("the buffer stays", x.digest(), before);
        due("60 characters", x.clearBuffer(), 60);
    }

    private static void promise15And16Snapshots() {
        MagnetPoems x = lending();
        x.borrow(0, 0, 1, 1);
        x.set(2, 4);
        type(x, "abc");
        due("keep", x.keep(1), 32);
        due("not undoable", x.count(8), 4);
        dueThrow(x, "keep 2", ARGUMENT, () -> x.keep(2));
        dueThrow(x, "keep -1", ARGUMENT, () -> x.keep(-1));
        dueThrow(x, "goBack 2", ARGUMENT, () -> x.goBack(2));
        dueThrow(x, "goBack -1", ARGUMENT, () -> x.goBack(-1));
        dueThrow(x, "goBack to an empty slot", STATE, () -> x.goBack(0));
        x.clearDoor(0);
        x.set(1, 1);
        x.sleep(3);
        x.clearBuffer();
        type(x, "de");
        due("goBack", x.goBack(1), 32);
        dueDoor("the words", x, 0, "0,1/4,5//");
        due("the loan", x.lineOf(0, 0, 3), 3);
        due("a setting", x.setting(1), 20);
        due("another", x.setting(2), 4);
        due("the nights", x.count(2), 0);
        due("thefts", x.count(3), 0);
        due("watched", x.doorOf(1, 3), 0);
        due("the buffer stays as it is", x.clearBuffer(), 2);
        due("saved", x.count(8), 6);
        due("undo", x.undo(), 5);
        due("undone nights", x.count(2), 3);
        due("it stays", x.goBack(1), 32);
        x.clearDoor(1);
        due("keep in its place", x.keep(1), 36);
        x.clearDoor(0);
        due("keep the other", x.keep(0), 40);
        due("goBack to the first", x.goBack(1), 36);
        due("goBack to the other", x.goBack(0), 40);
        x.undo();
        x.undo();
        due("slots stay", x.goBack(1), 36);
    }

    private static void promise17Undo() {
        MagnetPoems x = new MagnetPoems();
        for (int word = 0; word < 8; word++) {
            due("put", x.put(word, word % 4, word / 4, 0), 0);
        }
        due("six saved", x.count(8), 6);
        x.keep(0);
        type(x, "7");
        for (int left = 5; left >= 0; left--) {
            due("undo", x.undo(), left);
            due("words put", x.count(4), left + 2);
            due("words in the bag", x.count(0), 38 - left);
        }
        dueThrow(x, "undo none", STATE, x::undo);
        due("the buffer stays", x.clearBuffer(), 1);
        due("the slot stays", x.goBack(0), 32);
        due("saved again", x.undo(), 0);
        x.takeOff(0);
        x.clearDoor(1);
        due("undo goes back by one", x.undo(), 1);
        due("word 1 is there", x.wordOf(1, 3), 1);
        due("word 0 is not", x.wordOf(0, 3), NONE);
    }

    private static void promise18WordOf() {
        MagnetPoems x = new MagnetPoems();
        int[][] words = {{0, 0, 0, 1}, {7, 3, 1, 2}, {19, 3, 4, 2}, {20, 0, 0, 3}, {38, 2, 4, 3}, {39, 3, 4, 1}};
        for (int[] word : words) {
            for (int what = 0; what < 3; what++) {
                due("wordOf " + word[0] + " " + what, x.wordOf(word[0], what), word[what + 1]);
            }
            due("no door", x.wordOf(word[0], 3), NONE);
            due("no line", x.wordOf(word[0], 4), NONE);
            due("no place", x.wordOf(word[0], 5), NONE);
            due("no theft", x.wordOf(word[0], 6), 0);
        }
        with(x, 2, "0/1,2,4");
        due("door", x.wordOf(4, 3), 2);
        due("line", x.wordOf(4, 4), 1);
        due("place", x.wordOf(4, 5), 2);
        x.takeOff(2);
        due("place then", x.wordOf(4, 5), 1);
        dueThrow(x, "wordOf 40", INDEX, () -> x.wordOf(40, 0));
        dueThrow(x, "wordOf -1, 9", INDEX, () -> x.wordOf(-1, 9));
        dueThrow(x, "wordOf what 7", ARGUMENT, () -> x.wordOf(0, 7));
        dueThrow(x, "wordOf what -1", ARGUMENT, () -> x.wordOf(0, -1));
    }

    private static void promise19At() {
        MagnetPoems x = with("0,1,6,3,12,9");
        due("at 0", x.at(0, 0, 0), 0);
        due("at 5", x.at(0, 0, 5), 9);
        x.takeOff(0);
        due("at 0 then", x.at(0, 0, 0), 1);
        due("at 5 then", x.at(0, 0, 5), NONE);
        due("at elsewhere", x.at(3, 3, 0), NONE);
        dueThrow(x, "at place 6", INDEX, () -> x.at(0, 0, 6));
        dueThrow(x, "at place -1", INDEX, () -> x.at(0, 0, -1));
        dueThrow(x, "at line 4", INDEX, () -> x.at(0, 4, 0));
        dueThrow(x, "at line -1", INDEX, () -> x.at(1, -1, 0));
        dueThrow(x, "at door 4", INDEX, () -> x.at(4, 0, 0));
        dueThrow(x, "at door -1", INDEX, () -> x.at(-1, 0, 0));
    }

    private static void dueLine(MagnetPoems x, int door, int line, int... want) {
        for (int what = 0; what < want.length; what++) {
            due("lineOf " + door + " " + line + " " + what, x.lineOf(door, line, what), want[what]);
        }
    }

    private static void promise20LineOf() {
        MagnetPoems x = with("0,1,3/8,9,4,10/20,2/21");
        dueLine(x, 0, 0, 3, 4, 9, 0, NONE, NONE, 2, 1);
        dueLine(x, 0, 1, 4, 8, 16, 2, NONE, NONE, 0, 1);
        dueLine(x, 0, 2, 2, 6, 6, 0, NONE, NONE, 2, 1);
        dueLine(x, 0, 3, 1, 1, 1, 0, NONE, NONE, 2, 1);
        dueLine(x, 1, 0, 0, 0, 0, NONE, NONE, NONE, 0, 1);
        with(x, 3, "12/5,7");
        x.borrow(0, 1, 3, 1);
        x.borrow(3, 0, 0, 3);
        dueLine(x, 0, 1, 4, 8, 16, 1, 31, NONE, 0, 1);
        dueLine(x, 3, 1, 2, 5, 5, 1, NONE, 1, 0, 1);
        dueLine(x, 3, 0, 1, 1, 1, 0, 3, NONE, 0, 1);
        dueLine(x, 0, 3, 1, 1, 1, 0, NONE, 30, 2, 1);
        x.takeOff(9);
        dueLine(x, 0, 1, 3, 7, 7, 2, NONE, NONE, 0, 0);
        dueThrow(x, "lineOf 4 0", INDEX, () -> x.lineOf(4, 0, 0));
        dueThrow(x, "lineOf 0 4", INDEX, () -> x.lineOf(0, 4, 9));
        dueThrow(x, "lineOf -1", INDEX, () -> x.lineOf(0, -1, 0));
        dueThrow(x, "lineOf what 8", ARGUMENT, () -> x.lineOf(0, 0, 8));
        dueThrow(x, "lineOf what -1", ARGUMENT, () -> x.lineOf(0, 0, -1));
    }

    private static void promise21DoorOf() {
        MagnetPoems x = with("0,1,3/8,9,4,10/20,2/21");
        due("worth", x.doorOf(0, 0), 9 + 16 + 6 + 1 + 12);
        due("words", x.doorOf(0, 1), 10);
        due("pairs", x.doorOf(0, 2), 3);
        with(x, 1, "24,6/32,13");
        due("no pair", x.doorOf(1, 2), 0);
        due("worth of door 1", x.doorOf(1, 0), 12);
        x.borrow(1, 0, 0, 1);
        due("still none", x.doorOf(1, 2), 0);
        x.bringBack(1, 0);
        with(x, 2, "12");
        x.borrow(1, 0, 2, 0);
        due("a rhyme that is borrowed", x.doorOf(1, 2), 1);
        due("is worth 4", x.doorOf(1, 0), 16);
        dueThrow(x, "doorOf 4", INDEX, () -> x.doorOf(4, 9));
        dueThrow(x, "doorOf -1", INDEX, () -> x.doorOf(-1, 0));
        dueThrow(x, "doorOf what 5", ARGUMENT, () -> x.doorOf(0, 5));
        dueThrow(x, "doorOf what -1", ARGUMENT, () -> x.doorOf(0, -1));
    }

    private static void promise22And23Numbers() {
        MagnetPoems x = with(with("0,1,3/8,9,4,10/20,2/21"), 1, "5");
        x.put(6, 2, 0, 0);
        x.put(24, 0, 0, 0);
        x.move(5, 3, 0);
        x.borrow(3, 0, 2, 0);
        x.sleep(1);
        int[] want = {29, 29, 1, 1, 13, 1, 1, 0, 6};
        want[7] = x.doorOf(0, 0) + x.doorOf(1, 0) + x.doorOf(2, 0) + x.doorOf(3, 0);
        for (int what = 0; what < 9; what++) {
            due("count " + what, x.count(what), want[what]);
        }
        due("the worth of all doors", x.count(7), 9 + 16 + 3 + 1 + 12 + 1 + 3);
        dueThrow(x, "count 9", ARGUMENT, () -> x.count(9));
        dueThrow(x, "count -1", ARGUMENT, () -> x.count(-1));
        dueThrow(x, "setting 3", INDEX, () -> x.setting(3));
        dueThrow(x, "setting -1", INDEX, () -> x.setting(-1));
    }

    private static void promise24WhyNot() {
        MagnetPoems x = with("0,1,6");
        due("can", x.whyNot(2, 0, 0, 3), 0);
        due("cannot", x.whyNot(4, 0, 0, 1), 3);
        due("it is on this line", x.whyNot(1, 0, 0, 3), NONE);
        due("it is on another line", x.whyNot(1, 1, 0, 0), 0);
        due("another line of its door", x.whyNot(1, 0, 3, 0), 0);
        due("nothing is counted", x.count(5), 0);
        due("nothing is saved", x.count(8), 1);
        dueThrow(x, "whyNot word 40", INDEX, () -> x.whyNot(40, 0, 0, 0));
        dueThrow(x, "whyNot word -1", INDEX, () -> x.whyNot(-1, 0, 0, 0));
        dueThrow(x, "whyNot door 4", INDEX, () -> x.whyNot(0, 4, 0, 0));
        dueThrow(x, "whyNot line 4", INDEX, () -> x.whyNot(0, 0, 4, 0));
        dueThrow(x, "whyNot place 4", INDEX, () -> x.whyNot(0, 0, 0, 4));
        dueThrow(x, "whyNot place -1", INDEX, () -> x.whyNot(0, 0, 0, -1));
        dueThrow(x, "whyNot place 1 of a bare line", INDEX, () -> x.whyNot(0, 1, 0, 1));
    }

    private static void promise25BestWord() {
        MagnetPoems x = new MagnetPoems();
        due("most beats, the lowest", x.bestWord(0, 0), 2);
        with(x, 0, "0/7,8");
        due("a deed to a thing, and a rhyme", x.bestWord(0, 0), 29);
        due("a rhyme with line 0 or 1", x.bestWord(0, 2), 2);
        with(x, 1, "17,32/16,13");
        due("the eighth beat, with a rhyme", x.bestWord(1, 0), 34);
        due("few beats left", with("8,5,2,13").bestWord(0, 0), 0);
        MagnetPoems full = with("0,1,6,3,12,9");
        due("a full line", full.bestWord(0, 0), NONE);
        MagnetPoems borrowed = with(with("0/21"), 1, "9");
        borrowed.borrow(0, 0, 1, 0);
        due("a loan does not outlast the word", borrowed.bestWord(0, 0), 1);
        due("it rhymes with a borrowed ending", borrowed.bestWord(0, 2), 2);
        MagnetPoems other = with(with("2/6"), 1, "8");
        other.borrow(0, 0, 1, 0);
        other.takeOff(6);
        due("the ending that line 0 borrowed", other.bestWord(0, 1), 11);
        dueThrow(x, "bestWord 4 0", INDEX, () -> x.bestWord(4, 0));
        dueThrow(x, "bestWord 0 4", INDEX, () -> x.bestWord(0, 4));
        dueThrow(x, "bestWord 0 -1", INDEX, () -> x.bestWord(0, -1));
    }

    private static void promise26And27Nights() {
        MagnetPoems x = with("2,5,8/14,17,20");
        long before = x.digest();
        due("prey", x.prey(), 14);
        due("no night", x.ifSlept(1, 0), 25);
        due("two nights", x.ifSlept(2, 0), 25);
        due("three nights", x.ifSlept(3, 0), 17);
        due("many nights", x.ifSlept(20, 0), 17);
        due("another door", x.ifSlept(20, 1), 0);
        due("nothing is changed", x.digest(), before);
        dueThrow(x, "ifSlept 0", ARGUMENT, () -> x.ifSlept(0, 0));
        dueThrow(x, "ifSlept 21", ARGUMENT, () -> x.ifSlept(21, 0));
        dueThrow(x, "ifSlept door 4", INDEX, () -> x.ifSlept(21, 4));
        dueThrow(x, "ifSlept door -1", INDEX, () -> x.ifSlept(1, -1));
    }

    private static void promise28ShownShare() {
        MagnetPoems x = new MagnetPoems();
        CHECKS.dueOutcome("none shown", "" + x.shownShare(), "0.0");
        for (int word = 0; word < 16; word++) {
            x.put(word, word / 4, word % 4, 0);
            CHECKS.dueOutcome("shown", "" + x.shownShare(), "" + (word + 1) / 40.0);
        }
    }

    private static void promise29Digest() {
        MagnetPoems x = new MagnetPoems();
        Model model = new Model();
        due("digest of a new one", x.digest(), model.digest());
        for (int word = 0; word < 40; word++) {
            int door = word / 4 % 4;
            int line = (word + word / 16) % 4;
            due("put", x.put(word, door, line, 0), model.put(word, door, line, 0));
            due("digest with " + word, x.digest(), model.digest());
        }
        x.keep(1);
        model.keep(1);
        due("digest with a snapshot", x.digest(), model.digest());
        x.write(2);
        model.write(2);
        due("digest with a buffer", x.digest(), model.digest());
    }

    public static void main(String[] args) {
        promise1NewObject();
        promise2Put();
        promise2PutWrong();
        reasonsInOrder();
        kindsOfAllWords();
        promise3TakeOff();
        promise4Move();
        promise5ClearDoor();
        promise6Borrow();
        promise7BringBack();
        loansComeBack();
        loansAtNight();
        promise8Sleep();
        preyInOrder();
        watchedDoors();
        limitOfNights();
        promise9Set();
        promise10And11Buffer();
        promise12FirstError();
        numbersThatStandTwice();
        longBuffers();
        promise13Load();
        promise13LoadWrong();
        promise14Write();
        longTexts();
        promise15And16Snapshots();
        promise17Undo();
        promise18WordOf();
        promise19At();
        promise20LineOf();
        promise21DoorOf();
        promise22And23Numbers();
        promise24WhyNot();
        promise25BestWord();
        promise26And27Nights();
        promise28ShownShare();
        promise29Digest();
        CHECKS.end();
    }
}
