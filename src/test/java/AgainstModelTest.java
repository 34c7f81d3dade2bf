/** Runs of calls, drawn by a counter that always counts alike, on the program and on the model of it. */
public final class AgainstModelTest {
    private static final int RUNS = 600;
    private static final int CALLS = 512;
    private static final int[] ODD = {-1, Integer.MIN_VALUE, Integer.MAX_VALUE, 4, 6, 7, 9, 40, 16, 21, 201};

    private static final Checks CHECKS = new Checks();

    private final MagnetPoems program = new MagnetPoems();
    private final Model model = new Model();
    private final int run;
    private long drawn;

    private AgainstModelTest(int run) {
        this.run = run;
        this.drawn = 77003L * run + 5;
    }

    private int draw(int limit) {
        drawn = drawn * 6364136223846793005L + 1442695040888963407L;
        return (int) ((drawn >>> 33) % limit);
    }

    /** Mostly a number below the limit; now and then one that is not. */
    private int some(int limit) {
        return draw(60) == 0 ? ODD[draw(ODD.length)] : draw(limit);
    }

    private void same(String call, Checks.Call asked, Checks.Call wanted) {
        CHECKS.dueOutcome("run " + run + ": " + call, Checks.outcome(asked), Checks.outcome(wanted));
    }

    private void play() {
        for (int call = 0; call < CALLS && !CHECKS.anyWrong(); call++) {
            if (call % 8 == 7) {
                same("digest, call " + call, program::digest, model::digest);
            } else {
                playOne();
            }
        }
    }

    private void playOne() {
        int kind = draw(100);
        if (kind < 42) {
            playWords(kind);
        } else if (kind < 60) {
            playEndings(kind);
        } else if (kind < 82) {
            playTexts(kind);
        } else {
            playLooks();
        }
    }

    private void playWords(int kind) {
        int word = some(40);
        int door = some(run % 3 == 0 ? 2 : 4);
        int line = some(4);
        if (kind < 28) {
            int size = Math.max(0, program.lineOf(door & 3, line & 3, 0));
            int place = draw(3) > 0 ? size : some(size + 1);
            same("put " + word + " " + door + " " + line + " " + place,
                    () -> program.put(word, door, line, place), () -> model.put(word, door, line, place));
        } else if (kind < 33) {
            same("takeOff " + word, () -> program.takeOff(word), () -> model.takeOff(word));
        } else if (kind < 41) {
            same("move " + word + " " + door + " " + line,
                    () -> program.move(word, door, line), () -> model.move(word, door, line));
        } else {
            same("clearDoor " + door, () -> program.clearDoor(door), () -> model.clearDoor(door));
        }
    }

    private void playEndings(int kind) {
        int door = some(4);
        int line = some(4);
        int fromDoor = some(4);
        int fromLine = some(4);
        if (kind < 51) {
            same("borrow " + door + " " + line + " " + fromDoor + " " + fromLine,
                    () -> program.borrow(door, line, fromDoor, fromLine),
                    () -> model.borrow(door, line, fromDoor, fromLine));
        } else if (kind < 54) {
            same("bringBack " + door + " " + line,
                    () -> program.bringBack(door, line), () -> model.bringBack(door, line));
        } else if (kind < 57) {
            int nights = draw(8) > 0 ? 1 + draw(3) : some(21);
            same("sleep " + nights, () -> program.sleep(nights), () -> model.sleep(nights));
        } else {
            int setting = some(3);
            int value = draw(8) == 0 ? some(202) : draw(setting == 1 ? 40 : setting == 2 ? 4 : 2);
            same("set " + setting + " " + value,
                    () -> program.set(setting, value), () -> model.set(setting, value));
        }
    }

    private void playTexts(int kind) {
        int door = some(4);
        if (kind < 64) {
            type(poem(), 3);
            same("firstError", program::firstError, model::firstError);
            if (draw(2) == 0) {
                same("load " + door, () -> program.load(door), () -> model.load(door));
            }
        } else if (kind < 66) {
            same("clearBuffer", program::clearBuffer, model::clearBuffer);
        } else if (kind < 70) {
            int code = some(94) + 33;
            same("append " + code, () -> program.append(code), () -> model.append(code));
        } else if (kind < 73) {
            same("write " + door, () -> program.write(door), () -> model.write(door));
        } else if (kind < 75) {
            same("load " + door, () -> program.load(door), () -> model.load(door));
        } else if (kind < 77) {
            int slot = some(2);
            same("keep " + slot, () -> program.keep(slot), () -> model.keep(slot));
        } else if (kind < 78) {
            int slot = some(2);
            same("goBack " + slot, () -> program.goBack(slot), () -> model.goBack(slot));
        } else {
            same("undo", program::undo, model::undo);
        }
    }

    private String poem() {
        StringBuilder text = new StringBuilder();
        int words = 1 + draw(12);
        for (int i = 0; i < words; i++) {
            text.append(i == 0 ? "" : draw(4) == 0 ? "/" : ",").append(draw(draw(2) == 0 ? 40 : 20));
        }
        return text.toString();
    }

    private void type(String text, int faults) {
        for (char code : text.toCharArray()) {
            int typed = draw(40) < faults ? "0123456789,/ a".charAt(draw(14)) : code;
            same("append " + typed, () -> program.append(typed), () -> model.append(typed));
        }
    }

    private void playLooks() {
        int word = some(40);
        int door = some(4);
        int line = some(4);
        int small = some(6);
        int what = some(9);
        int nights = 1 + some(20);
        same("wordOf", () -> program.wordOf(word, what), () -> model.wordOf(word, what));
        same("at", () -> program.at(door, line, small), () -> model.at(door, line, small));
        same("lineOf", () -> program.lineOf(door, line, what), () -> model.lineOf(door, line, what));
        same("doorOf", () -> program.doorOf(door, small), () -> model.doorOf(door, small));
        same("count", () -> program.count(what), () -> model.count(what));
        same("setting", () -> program.setting(small), () -> model.setting(small));
        same("whyNot " + word + " " + door + " " + line + " " + small,
                () -> program.whyNot(word, door, line, small), () -> model.whyNot(word, door, line, small));
        same("bestWord", () -> program.bestWord(door, line), () -> model.bestWord(door, line));
        same("prey", program::prey, model::prey);
        same("ifSlept", () -> program.ifSlept(nights, door), () -> model.ifSlept(nights, door));
        same("shownShare", () -> Double.doubleToLongBits(program.shownShare()),
                () -> Double.doubleToLongBits(model.shownShare()));
    }

    public static void main(String[] args) {
        for (int run = 0; run < RUNS && !CHECKS.anyWrong(); run++) {
            new AgainstModelTest(run).play();
        }
        CHECKS.end();
    }
}
