import java.util.ArrayList;
import java.util.LinkedHashMap;
import java.util.List;
import java.util.Map;

/** Edges of promises 15 to 17: snapshots, and saved states. */
public final class SnapshotsEdgesTest extends Edges {
    public static void main(String[] args) {
        run(new SnapshotsEdgesTest());
    }

    /** Eight words put, so that six states are saved, and the two oldest ones are dropped. */
    private static MagnetPoems eightPuts() {
        MagnetPoems x = Rooms.bare();
        for (int word = 0; word < 8; word++) {
            x.put(word, word % 4, word / 4, 0);
        }
        return x;
    }

    private static MagnetPoems kept(int slot) {
        return after(Rooms::loan, x -> x.keep(slot));
    }

    // ---- promise 15

    void promise15SlotOutOfRange() {
        refusesOutside(0, 1, ARGUMENT, Rooms::livedIn, (x, slot) -> x.keep(slot));
    }

    void promise15FirstAndLastSlot() {
        for (int i = 0; i < 2; i++) {
            int slot = i;
            answers("keep", 32, Rooms::loan, x -> x.keep(slot));
            answers("it is there", 32, () -> kept(slot), x -> x.goBack(slot));
            refuses("the other is not", STATE, () -> kept(slot), x -> x.goBack(1 - slot));
        }
    }

    void promise15FullAndEmptyBag() {
        answers("a full one", 40, Rooms::bare, x -> x.keep(0));
        answers("an empty one", 0, Rooms::emptyBag, x -> x.keep(1));
    }

    void promise15InPlaceOfTheOneInTheSlot() {
        MagnetPoems x = Rooms.bare();
        x.keep(0);
        x.keep(1);
        x.put(0, 0, 0, 0);
        due("keep in its place", x.keep(0), 39);
        x.put(1, 0, 1, 0);
        due("the new one", x.goBack(0), 39);
        due("the other stays", x.goBack(1), 40);
    }

    void promise15LaterCallsDoNotChangeIt() {
        MagnetPoems x = Rooms.loan();
        x.keep(0);
        x.set(1, 0);
        x.sleep(3);
        x.clearDoor(0);
        x.put(30, 0, 0, 0);
        x.goBack(0);
        dueText("the snapshot as it was", View.changed(Rooms::loan, () -> {
            MagnetPoems y = kept(0);
            y.clearDoor(0);
            y.sleep(20);
            y.goBack(0);
            return y;
        }).toString(), "[count 8]");
        due("all words are back", x.count(0), 32);
    }

    void promise15ChangesNothingElse() {
        changes("keep", Rooms::loan, x -> x.keep(0));
        MagnetPoems x = after(Rooms::livedIn, y -> y.keep(0));
        due("the buffer stays", x.clearBuffer(), 5);
        due("the saved states stay", x.count(8), 6);
        due("the other slot stays", x.goBack(1), 33);
    }

    void promise15IsNotUndoable() {
        savesNothing("keep", Rooms::lending, x -> x.keep(0));
    }

    void promise15TheBufferIsNotKept() {
        MagnetPoems x = Rooms.typed("abc");
        x.keep(0);
        x.clearBuffer();
        x.goBack(0);
        due("no character", x.clearBuffer(), 0);
    }

    // ---- promise 16

    void promise16SlotOutOfRange() {
        refusesOutside(0, 1, ARGUMENT, Rooms::livedIn, (x, slot) -> x.goBack(slot));
    }

    void promise16EmptySlot() {
        refuses("slot 0 of a new room", STATE, Rooms::bare, x -> x.goBack(0));
        refuses("slot 1 of a new room", STATE, Rooms::bare, x -> x.goBack(1));
        refuses("slot 0", STATE, () -> kept(1), x -> x.goBack(0));
        refuses("slot 1", STATE, () -> kept(0), x -> x.goBack(1));
    }

    void promise16NoSuchSlotComesBeforeNoSnapshot() {
        refuses("slot 2 of a new room", ARGUMENT, Rooms::bare, x -> x.goBack(2));
        refuses("slot -1 of a new room", ARGUMENT, Rooms::bare, x -> x.goBack(-1));
    }

    void promise16AnswersTheBagThen() {
        answers("a full one", 40, () -> after(() -> after(Rooms::bare, x -> x.keep(0)), x -> x.put(0, 0, 0, 0)),
                x -> x.goBack(0));
        answers("an empty one", 0, () -> after(() -> after(Rooms::emptyBag, x -> x.keep(1)), x -> x.clearDoor(0)),
                x -> x.goBack(1));
    }

    void promise16ItStays() {
        MagnetPoems x = kept(0);
        for (int i = 0; i < 3; i++) {
            x.clearDoor(i % 2);
            due("again", x.goBack(0), 32);
            due("its loan", x.lineOf(0, 0, 4), 11);
        }
    }

    void promise16AllThatIsCountedGoesBack() {
        MagnetPoems x = Rooms.lending();
        x.keep(0);
        x.set(1, 0);
        x.set(0, 1);
        x.set(2, 9);
        x.sleep(2);
        x.put(16, 0, 0, 0);
        x.put(16, 3, 0, 0);
        x.goBack(0);
        int[] counts = {32, 32, 0, 0, 8, 0, 0, Rooms.lending().count(7), 6};
        for (int what = 0; what < 9; what++) {
            due("count " + what, x.count(what), counts[what]);
        }
        due("joints", x.setting(0), 0);
        due("how rich", x.setting(1), 20);
        due("nights watched", x.setting(2), 1);
        for (int door = 0; door < 4; door++) {
            due("watched", x.doorOf(door, 3), 0);
            due("stolen from it", x.doorOf(door, 4), 0);
        }
        for (int word = 0; word < 40; word++) {
            due("thefts", x.wordOf(word, 6), 0);
        }
    }

    void promise16BufferSlotsAndSavedStatesStay() {
        MagnetPoems x = Rooms.livedIn();
        due("goBack", x.goBack(0), 32);
        due("saved", x.count(8), 6);
        due("the other slot", x.goBack(1), 33);
        due("the buffer", x.clearBuffer(), 5);
        x.undo();
        due("the state between", x.count(0), 32);
        x.undo();
        due("the state before", x.count(0), 31);
    }

    void promise16CanBeUndone() {
        canBeUndone("goBack", () -> after(() -> kept(0), x -> x.clearDoor(1)), x -> x.goBack(0));
        canBeUndone("goBack to the same", () -> kept(1), x -> x.goBack(1));
    }

    // ---- promise 17

    void promise17NoSavedState() {
        refuses("a new room", STATE, Rooms::bare, x -> x.undo());
        MagnetPoems x = Rooms.with("0");
        due("the only one", x.undo(), 0);
        dueText("one more", Checks.outcome(x::undo), "throws " + STATE.getName());
        dueSame("as new", x, Rooms::bare);
    }

    void promise17SixSavedStatesAndOneMore() {
        MagnetPoems x = Rooms.bare();
        for (int word = 0; word < 6; word++) {
            x.put(word, word % 4, word / 4, 0);
            due("saved", x.count(8), word + 1);
        }
        x.put(6, 2, 1, 0);
        due("no more than six", x.count(8), 6);
        for (int left = 5; left >= 0; left--) {
            due("undo", x.undo(), left);
            due("put so far", x.count(4), left + 1);
        }
        due("the oldest one is dropped", x.at(0, 0, 0), 0);
        dueText("none is left", Checks.outcome(x::undo), "throws " + STATE.getName());
    }

    void promise17SixAreSavedAgain() {
        MagnetPoems x = eightPuts();
        x.undo();
        x.undo();
        x.undo();
        for (int i = 0; i < 5; i++) {
            x.set(1, 100 + i);
            due("saved", x.count(8), Math.min(6, 4 + i));
        }
        for (int i = 3; i >= 0; i--) {
            x.undo();
            due("how rich", x.setting(1), 100 + i);
        }
        x.undo();
        due("how rich then", x.setting(1), 20);
        due("put then", x.count(4), 5);
        due("the last one", x.undo(), 0);
        due("put at last", x.count(4), 4);
    }

    private static Map<String, Use> undoables() {
        Map<String, Use> uses = new LinkedHashMap<>();
        uses.put("put", x -> x.put(18, 0, 0, 0));
        uses.put("put that is refused", x -> x.put(16, 0, 0, 0));
        uses.put("takeOff", x -> x.takeOff(0));
        uses.put("move", x -> x.move(0, 3, 3));
        uses.put("move that is refused", x -> x.move(5, 0, 0));
        uses.put("clearDoor", x -> x.clearDoor(0));
        uses.put("clearDoor of a bare one", x -> x.clearDoor(3));
        uses.put("borrow", x -> x.borrow(0, 1, 1, 0));
        uses.put("bringBack", x -> x.bringBack(0, 0));
        uses.put("sleep", x -> x.sleep(20));
        uses.put("set", x -> x.set(1, 0));
        uses.put("set to the same", x -> x.set(1, 20));
        uses.put("goBack", x -> x.goBack(0));
        return uses;
    }

    void promise17EachUndoableMethodSavesOneState() {
        Room room = () -> kept(0);
        undoables().forEach((call, use) -> canBeUndone(call, room, use));
        answers("load", 4, () -> after(() -> Rooms.type(kept(0), "0"), x -> x.load(3)), x -> x.count(8));
    }

    void promise17EachUndoableMethodDropsTheOldestOfSix() {
        Room room = () -> {
            MagnetPoems x = kept(0);
            for (int i = 0; i < 4; i++) {
                x.set(2, i);
            }
            return x;
        };
        undoables().forEach((call, use) -> {
            MagnetPoems x = after(room, use);
            due("saved behind " + call, x.count(8), 6);
            List<Integer> watches = new ArrayList<>();
            for (int left = 5; left >= 0; left--) {
                due("undo", x.undo(), left);
                watches.add(x.setting(2));
            }
            dueText("states behind " + call, watches.toString(), "[3, 2, 1, 0, 1, 1]");
            due("back to before the loan", x.count(6), 0);
            due("but not to before the poems", x.count(0), 32);
        });
    }

    void promise17OtherCallsSaveNothing() {
        Room room = Rooms::lending;
        savesNothing("append", room, x -> x.append('0'));
        savesNothing("clearBuffer", room, x -> x.clearBuffer());
        savesNothing("firstError", room, x -> x.firstError());
        savesNothing("write", room, x -> x.write(0));
        savesNothing("keep", room, x -> x.keep(0));
        savesNothing("looks", room, x -> x.wordOf(0, 3) + x.at(0, 0, 0) + x.lineOf(0, 0, 0) + x.doorOf(0, 0));
        savesNothing("more looks", room, x -> x.count(8) + x.setting(1) + x.whyNot(5, 0, 0, 0) + x.bestWord(0, 0));
        savesNothing("guesses", room, x -> x.prey() + x.ifSlept(20, 0) + (long) x.shownShare() + x.digest());
    }

    void promise17ACallThatThrowsSavesNothing() {
        Room room = Rooms::livedIn;
        refuses("put", STATE, room, x -> x.put(0, 0, 0, 0));
        refuses("takeOff", STATE, room, x -> x.takeOff(38));
        refuses("move", STATE, room, x -> x.move(38, 0, 0));
        refuses("clearDoor", INDEX, room, x -> x.clearDoor(4));
        refuses("borrow", STATE, room, x -> x.borrow(0, 0, 1, 1));
        refuses("bringBack", STATE, room, x -> x.bringBack(1, 1));
        refuses("sleep", ARGUMENT, room, x -> x.sleep(0));
        refuses("set", ARGUMENT, room, x -> x.set(0, 2));
        refuses("load", ARGUMENT, room, x -> x.load(0));
        refuses("goBack", ARGUMENT, room, x -> x.goBack(2));
    }

    void promise17UndoSavesNothing() {
        MagnetPoems x = eightPuts();
        for (int left = 5; left >= 0; left--) {
            due("undo", x.undo(), left);
            due("saved", x.count(8), left);
        }
        dueText("nothing to go back to", Checks.outcome(x::undo), "throws " + STATE.getName());
    }

    void promise17BufferAndSlotsStay() {
        MagnetPoems x = Rooms.with("0,1");
        x.keep(1);
        Rooms.type(x, "what");
        due("undo", x.undo(), 0);
        due("the buffer", x.clearBuffer(), 4);
        due("the slot", x.goBack(1), 38);
        due("put in it", x.count(4), 2);
        due("undo of goBack", x.undo(), 0);
        due("the slot then", x.goBack(1), 38);
    }

    void promise17AllThatIsCountedIsRestored() {
        MagnetPoems x = Rooms.livedIn();
        while (x.count(8) > 0) {
            x.undo();
        }
        due("nights", x.count(2), 0);
        due("stolen", x.count(3), 0);
        due("put", x.count(4), 8);
        due("lent", x.count(6), 0);
        due("how rich", x.setting(1), 20);
    }
}
