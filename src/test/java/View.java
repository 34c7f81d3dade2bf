import java.util.ArrayList;
import java.util.LinkedHashMap;
import java.util.List;
import java.util.Map;
import java.util.TreeSet;

/** All that can be seen of a room, each number with the call that tells it. */
final class View {
    private static final Map<String, Edges.Use> LOOKS = looks();

    /** An object is promised for 512 calls only, so that each stretch of looks has a room of its own. */
    private static final int LOOKS_OF_ONE_ROOM = 200;

    private View() {
    }

    private static Map<String, Edges.Use> looks() {
        Map<String, Edges.Use> looks = new LinkedHashMap<>();
        addNumbers(looks);
        for (int i = 0; i < 40; i++) {
            int word = i;
            for (int k = 3; k < 7; k++) {
                int what = k;
                looks.put("wordOf " + word + " " + what, x -> x.wordOf(word, what));
            }
        }
        for (int i = 0; i < 4; i++) {
            int door = i;
            for (int k = 0; k < 5; k++) {
                int what = k;
                looks.put("doorOf " + door + " " + what, x -> x.doorOf(door, what));
            }
            looks.put("ifSlept 3 " + door, x -> x.ifSlept(3, door));
            for (int line = 0; line < 4; line++) {
                addLine(looks, door, line);
            }
        }
        return looks;
    }

    private static void addNumbers(Map<String, Edges.Use> looks) {
        for (int i = 0; i < 9; i++) {
            int what = i;
            looks.put("count " + what, x -> x.count(what));
        }
        for (int i = 0; i < 3; i++) {
            int setting = i;
            looks.put("setting " + setting, x -> x.setting(setting));
        }
        looks.put("prey", x -> x.prey());
        looks.put("shownShare", x -> Double.doubleToLongBits(x.shownShare()));
        looks.put("firstError", x -> x.firstError());
    }

    private static void addLine(Map<String, Edges.Use> looks, int door, int line) {
        for (int i = 0; i < 6; i++) {
            int place = i;
            looks.put("at " + door + " " + line + " " + place, x -> x.at(door, line, place));
        }
        for (int i = 0; i < 8; i++) {
            int what = i;
            looks.put("lineOf " + door + " " + line + " " + what, x -> x.lineOf(door, line, what));
        }
        looks.put("bestWord " + door + " " + line, x -> x.bestWord(door, line));
    }

    static Map<String, Long> of(Edges.Room room) {
        Map<String, Long> seen = new LinkedHashMap<>();
        MagnetPoems x = room.make();
        for (String look : LOOKS.keySet()) {
            if (seen.size() % LOOKS_OF_ONE_ROOM == 0) {
                x = room.make();
            }
            seen.put(look, LOOKS.get(look).on(x));
        }
        return seen;
    }

    /** The looks that answer otherwise in one room than in the other. */
    static TreeSet<String> changed(Edges.Room before, Edges.Room after) {
        TreeSet<String> changed = new TreeSet<>();
        Map<String, Long> was = of(before);
        Map<String, Long> is = of(after);
        for (String look : was.keySet()) {
            if (!was.get(look).equals(is.get(look))) {
                changed.add(look);
            }
        }
        return changed;
    }

    /** The digests of a room as it is, then of each saved state, then of each snapshot. */
    static List<String> trace(MagnetPoems x) {
        List<String> trace = new ArrayList<>();
        trace.add("now " + x.digest());
        while (x.count(8) > 0) {
            trace.add("undo " + x.undo() + " " + x.digest());
        }
        for (int slot = 0; slot < 2; slot++) {
            int number = slot;
            trace.add("slot " + Checks.outcome(() -> x.goBack(number)) + " " + x.digest());
        }
        return trace;
    }
}
