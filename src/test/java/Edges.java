import java.lang.reflect.InvocationTargetException;
import java.lang.reflect.Method;
import java.util.Arrays;
import java.util.Comparator;
import java.util.TreeSet;

/**
 * What the tests of edges share. A test is a method whose name begins with its promise; each is run by
 * its name, so that none is forgotten, and one that looks at no answer is wrong.
 */
abstract class Edges {
    static final Class<IndexOutOfBoundsException> INDEX = IndexOutOfBoundsException.class;
    static final Class<IllegalArgumentException> ARGUMENT = IllegalArgumentException.class;
    static final Class<IllegalStateException> STATE = IllegalStateException.class;
    static final int NONE = MagnetPoems.NONE;
    static final int MIN = Integer.MIN_VALUE;
    static final int MAX = Integer.MAX_VALUE;

    /** Makes a room; each time one that is like the last one, and shares nothing with it. */
    interface Room {
        MagnetPoems make();
    }

    interface Use {
        long on(MagnetPoems x);
    }

    interface UseOf {
        long on(MagnetPoems x, int number);
    }

    private final Checks checks = new Checks();
    private String test = "";

    static void run(Edges tests) {
        Method[] methods = tests.getClass().getDeclaredMethods();
        Arrays.sort(methods, Comparator.comparing(Method::getName));
        for (Method method : methods) {
            if (method.getName().startsWith("promise")) {
                tests.runOne(method);
            }
        }
        tests.checks.end();
    }

    private void runOne(Method method) {
        test = method.getName();
        int before = checks.done();
        try {
            method.invoke(this);
        } catch (InvocationTargetException e) {
            checks.dueOutcome(test, "ended by " + e.getCause(), "not ended by anything");
        } catch (IllegalAccessException e) {
            checks.dueOutcome(test, "is private", "can be run");
        }
        if (checks.done() == before) {
            checks.dueOutcome(test, "looks at no answer", "looks at one");
        }
    }

    final void due(String what, long got, long want) {
        checks.due(test + ": " + what, got, want);
    }

    final void dueText(String what, String got, String want) {
        checks.dueOutcome(test + ": " + what, got, want);
    }

    final void dueDoor(MagnetPoems x, int door, String want) {
        dueText("door " + door, Rooms.text(x, door), want);
    }

    /** The buffer can be told by its digest alone: the text that is due is typed in its place. */
    final void dueBuffer(MagnetPoems x, String want) {
        long digest = x.digest();
        due("length of the buffer", x.clearBuffer(), want.length());
        Rooms.type(x, want);
        due("buffer with " + want, x.digest(), digest);
    }

    static MagnetPoems after(Room room, Use use) {
        MagnetPoems x = room.make();
        use.on(x);
        return x;
    }

    /** A call on a new room answers this. */
    final void answers(String call, long want, Room room, Use use) {
        MagnetPoems x = room.make();
        checks.dueOutcome(test + ": " + call, Checks.outcome(() -> use.on(x)), Long.toString(want));
    }

    /** A call on a new room throws this, and changes nothing: not the saved states and snapshots either. */
    final void refuses(String call, Class<? extends RuntimeException> want, Room room, Use use) {
        MagnetPoems x = room.make();
        checks.dueThrow(test + ": " + call, want, () -> use.on(x));
        dueSame("what is there behind " + call, x, room);
    }

    /** One below and one above, and the farthest numbers, are refused. */
    final void refusesOutside(int low, int high, Class<? extends RuntimeException> want, Room room, UseOf use) {
        for (int number : new int[] {low - 1, high + 1, MIN, MAX}) {
            refuses("with " + number, want, room, x -> use.on(x, number));
        }
    }

    /** A call on a new room changes nothing. */
    final void leavesAll(String call, Room room, Use use) {
        MagnetPoems x = room.make();
        use.on(x);
        dueSame("what is there behind " + call, x, room);
    }

    final void dueSame(String what, MagnetPoems x, Room room) {
        dueText(what, View.trace(x).toString(), View.trace(room.make()).toString());
    }

    /** A call on a new room changes these looks, and no other. */
    final void changes(String call, Room room, Use use, String... looks) {
        dueText("what " + call + " changes", View.changed(room, () -> after(room, use)).toString(),
                new TreeSet<>(Arrays.asList(looks)).toString());
    }

    /** A call on a new room saves the state from before it, and undo() brings all back. */
    final void canBeUndone(String call, Room room, Use use) {
        MagnetPoems x = room.make();
        int saved = x.count(8);
        use.on(x);
        due("saved behind " + call, x.count(8), saved + 1);
        due("undo of " + call, x.undo(), saved);
        dueSame("what is there behind undo of " + call, x, room);
    }

    /** A call on a new room with saved states saves none. */
    final void savesNothing(String call, Room room, Use use) {
        MagnetPoems x = room.make();
        MagnetPoems twin = room.make();
        int saved = x.count(8);
        use.on(x);
        due("saved behind " + call, x.count(8), saved);
        due("undo behind " + call, x.undo(), twin.undo());
        dueText("words behind undo", words(x), words(twin));
    }

    static String words(MagnetPoems x) {
        StringBuilder words = new StringBuilder();
        for (int door = 0; door < 4; door++) {
            words.append(Rooms.text(x, door)).append(' ');
        }
        return words.toString();
    }
}
