/** Edges of promises 8 and 9, and of 26 and 27: nights, thieves and settings. */
public final class NightsEdgesTest extends Edges {
    private static final int LAST_NIGHT = 9999;

    public static void main(String[] args) {
        run(new NightsEdgesTest());
    }

    /** The settings how rich, and nights watched, then poems for the doors. */
    private static Room room(int rich, int watch, String... poems) {
        return () -> Rooms.set(Rooms.set(Rooms.with(poems), 1, rich), 2, watch);
    }

    /** 500 calls, so that no more than twelve are left; most of the tests need but two or three. */
    private static MagnetPoems lastNight() {
        MagnetPoems x = nearLastNight();
        x.sleep(19);
        return x;
    }

    private static MagnetPoems nearLastNight() {
        MagnetPoems x = Rooms.bare();
        for (int i = 0; i < 499; i++) {
            x.sleep(20);
        }
        return x;
    }

    // ---- promise 8

    void promise08NightsOutOfRange() {
        refusesOutside(1, 20, ARGUMENT, Rooms::livedIn, (x, nights) -> x.sleep(nights));
    }

    void promise08OneNightAndTwenty() {
        answers("one", 1, room(0, 0, "0,1"), x -> x.sleep(1));
        answers("twenty", 2, room(0, 0, "0,1"), x -> x.sleep(20));
        answers("one so far", 1, () -> after(Rooms::bare, x -> x.sleep(1)), x -> x.count(2));
        answers("twenty so far", 20, () -> after(Rooms::bare, x -> x.sleep(20)), x -> x.count(2));
    }

    void promise08TheLastNightAndOneMore() {
        MagnetPoems x = lastNight();
        due("nights", x.count(2), LAST_NIGHT);
        long digest = x.digest();
        due("prey", x.prey(), NONE);
        String one = Checks.outcome(() -> x.sleep(1));
        dueText("one more", one, "throws " + STATE.getName());
        dueText("20 more", Checks.outcome(() -> x.sleep(20)), "throws " + STATE.getName());
        due("nothing is changed", x.digest(), digest);
        due("undo", x.undo(), 5);
        due("nights then", x.count(2), LAST_NIGHT - 19);
    }

    void promise08NightsAcrossTheLastOne() {
        MagnetPoems x = nearLastNight();
        long digest = x.digest();
        dueText("one too many", Checks.outcome(() -> x.sleep(20)), "throws " + STATE.getName());
        due("nothing is changed", x.digest(), digest);
        due("all that are left", x.sleep(19), 0);
        due("nights", x.count(2), LAST_NIGHT);
    }

    void promise08OutOfRangeComesBeforeTheLastNight() {
        MagnetPoems x = lastNight();
        long digest = x.digest();
        dueText("none", Checks.outcome(() -> x.sleep(0)), "throws " + ARGUMENT.getName());
        dueText("21", Checks.outcome(() -> x.sleep(21)), "throws " + ARGUMENT.getName());
        dueText("many", Checks.outcome(() -> x.sleep(MAX)), "throws " + ARGUMENT.getName());
        due("nothing is changed", x.digest(), digest);
    }

    void promise08BareDoorsAreNotVisited() {
        answers("no words", 0, room(0, 1), x -> x.sleep(20));
        answers("nor watched", 0, () -> after(room(0, 9), x -> x.sleep(1)), x -> x.doorOf(0, 3));
        answers("a word on the last door", 1, () -> Rooms.line(room(0, 1).make(), 3, 3, 0), x -> x.sleep(1));
    }

    void promise08AtLeastAsRichAsTheSetting() {
        answers("worth", 14, room(14, 1, "5,8,1,12"), x -> x.doorOf(0, 0));
        answers("just as rich", 1, room(14, 1, "5,8,1,12"), x -> x.sleep(1));
        answers("one poorer", 0, room(15, 1, "5,8,1,12"), x -> x.sleep(1));
        answers("as rich as any", 0, room(200, 1, "5,8,1,12"), x -> x.sleep(20));
        answers("none at first", 0, () -> Rooms.with("5,8,1,12"), x -> x.sleep(20));
        answers("twenty at first", 1, () -> Rooms.with("5,8,1,12/18,2,26"), x -> x.sleep(1));
    }

    void promise08TheRichestDoor() {
        answers("the first", 5, room(0, 1, "5,8", "17", "26"), x -> x.prey());
        answers("one between", 5, room(0, 1, "17", "5,8", "26"), x -> x.prey());
        answers("the last", 5, room(0, 1, "17", "26", "2", "5,8"), x -> x.prey());
        answers("by a rhyme", 21, room(0, 1, "2,10", "0/21"), x -> x.prey());
        answers("by eight beats", 38, room(0, 1, "2,14,26", "38,10,22,6"), x -> x.prey());
        answers("by a thing and a deed", 1, room(0, 1, "38,2", "0,1"), x -> x.prey());
        answers("by both together", 5, room(0, 1, "2,14,26,38", "5,8,1"), x -> x.prey());
    }

    void promise08OfSeveralDoorsTheLowest() {
        answers("as rich", 16, room(0, 1, "", "5,8,1", "17,20,13"), x -> x.doorOf(1, 0));
        answers("as rich as that", 16, room(0, 1, "", "5,8,1", "17,20,13"), x -> x.doorOf(2, 0));
        answers("the lower one", 5, room(0, 1, "", "5,8,1", "17,20,13"), x -> x.prey());
        answers("the other one, if that is watched", 17,
                () -> after(room(0, 1, "", "5,8,1", "17,20,13"), x -> x.sleep(1)), x -> x.prey());
    }

    void promise08TheWordOfTheMostBeats() {
        answers("on the first line", 5, room(0, 1, "4,5/7,1/10,28"), x -> x.prey());
        answers("on the last line", 5, room(0, 1, "4/7,1/10,28/5"), x -> x.prey());
        answers("of two beats", 4, room(0, 1, "0,9,4,21"), x -> x.prey());
        answers("of one beat", 0, room(0, 1, "0,9"), x -> x.prey());
    }

    void promise08OfSeveralWordsTheLineWithTheGreatestNumber() {
        answers("line 3", 32, room(0, 1, "5/8/2/32"), x -> x.prey());
        answers("line 2", 2, room(0, 1, "5/8/2/0"), x -> x.prey());
        answers("line 1", 8, room(0, 1, "5/8/10/0"), x -> x.prey());
        answers("line 0", 5, room(0, 1, "5/4/10/0"), x -> x.prey());
    }

    void promise08OfTheseTheFirstOne() {
        answers("at the front", 20, room(0, 1, "5/20,2,17,8"), x -> x.prey());
        answers("behind others", 17, room(0, 1, "5/0,17,8,2"), x -> x.prey());
        answers("at the end", 8, room(0, 1, "5/0,9,8"), x -> x.prey());
        answers("not the lowest number", 38, room(0, 1, "38,2"), x -> x.prey());
    }

    void promise08ItGoesIntoTheBag() {
        MagnetPoems x = room(0, 1, "0,5,4").make();
        due("sleep", x.sleep(1), 1);
        due("no door", x.wordOf(5, 3), NONE);
        due("in the bag", x.count(0), 38);
        due("in the bag by lines", x.count(1), 38);
        due("stolen so far", x.count(3), 1);
        due("stolen from the door", x.doorOf(0, 4), 1);
        due("stolen how often", x.wordOf(5, 6), 1);
        due("put again", x.put(5, 0, 0, 1), 0);
        due("again", x.sleep(2), 1);
        due("stolen twice", x.wordOf(5, 6), 2);
        due("twice from the door", x.doorOf(0, 4), 2);
    }

    void promise08TheLineKeepsItsOtherWords() {
        MagnetPoems x = room(0, 1, "0,5,4").make();
        x.sleep(1);
        dueDoor(x, 0, "0,4///");
        due("same kinds side by side", x.lineOf(0, 0, 7), 0);
        MagnetPoems joints = Rooms.set(room(0, 1, "3,5,7").make(), 0, 1);
        joints.sleep(1);
        dueDoor(joints, 0, "3,7///");
    }

    void promise08WatchedForNoNight() {
        answers("each night", 4, room(0, 0, "5,8,1,12"), x -> x.sleep(4));
        answers("not watched", 0, () -> after(room(0, 0, "5,8,1,12"), x -> x.sleep(1)), x -> x.doorOf(0, 3));
        answers("until it is bare", 4, room(0, 0, "5,8,1,12"), x -> x.sleep(20));
    }

    void promise08WatchedForOneNight() {
        answers("watched", 1, () -> after(room(0, 1, "5,8,1,12"), x -> x.sleep(1)), x -> x.doorOf(0, 3));
        answers("two nights", 1, room(0, 1, "5,8,1,12"), x -> x.sleep(2));
        answers("three nights", 2, room(0, 1, "5,8,1,12"), x -> x.sleep(3));
    }

    void promise08WatchedForNineNights() {
        MagnetPoems x = room(0, 9, "5,8,1,12").make();
        due("stolen", x.sleep(1), 1);
        for (int left = 9; left > 0; left--) {
            due("watched yet", x.doorOf(0, 3), left);
            due("no prey", x.prey(), NONE);
            due("a night of nothing", x.sleep(1), 0);
        }
        due("watched no more", x.doorOf(0, 3), 0);
        due("stolen again", x.sleep(1), 1);
        answers("ten nights", 1, room(0, 9, "5,8,1,12"), y -> y.sleep(10));
        answers("eleven nights", 2, room(0, 9, "5,8,1,12"), y -> y.sleep(11));
    }

    void promise08ANightFewerAlsoIfNothingIsStolen() {
        MagnetPoems x = room(0, 3, "5,8,1,12").make();
        x.sleep(1);
        x.set(1, 200);
        due("nothing", x.sleep(2), 0);
        due("watched yet", x.doorOf(0, 3), 1);
    }

    void promise08AWatchedDoorThatIsBare() {
        MagnetPoems x = room(0, 2, "5").make();
        due("its only word", x.sleep(1), 1);
        due("watched", x.doorOf(0, 3), 2);
        x.put(8, 0, 0, 0);
        due("no prey", x.prey(), NONE);
        due("watched twice", x.sleep(2), 0);
        due("prey then", x.prey(), 8);
    }

    void promise08OtherDoorsMeanwhile() {
        MagnetPoems x = room(0, 3, "5,8", "17,20").make();
        due("first night", x.sleep(1), 1);
        due("from the first one", x.doorOf(0, 4), 1);
        due("second night", x.sleep(1), 1);
        due("from the second one", x.doorOf(1, 4), 1);
        due("watched longer", x.doorOf(0, 3), 2);
        due("watched", x.doorOf(1, 3), 3);
        due("two nights", x.sleep(2), 0);
        due("fifth night", x.sleep(1), 1);
        due("from the first one again", x.doorOf(0, 4), 2);
    }

    void promise08ThePoorerDoorIsAskedIfTheRichIsWatched() {
        answers("one night", 1, room(5, 9, "5,8", "20,10"), x -> x.sleep(1));
        answers("rich enough", 2, room(5, 9, "5,8", "20,10"), x -> x.sleep(2));
        answers("too poor", 1, room(6, 9, "5,8", "20,10"), x -> x.sleep(2));
    }

    void promise08OneWordANight() {
        answers("twenty", 20, () -> Rooms.set(Rooms.set(Rooms.emptyBag(), 1, 0), 2, 0), x -> x.sleep(20));
        answers("four doors, then none", 4, () -> Rooms.set(Rooms.set(Rooms.emptyBag(), 1, 0), 2, 9),
                x -> x.sleep(10));
        answers("four doors, and the first again", 5, () -> Rooms.set(Rooms.set(Rooms.emptyBag(), 1, 0), 2, 9),
                x -> x.sleep(11));
    }

    void promise08NightsOfNothingChangeOnlyTheNights() {
        changes("nights with bare doors", Rooms::bare, x -> x.sleep(20), "count 2", "count 8");
        changes("nights with poor doors", () -> Rooms.with("0,1", "8"), x -> x.sleep(1), "count 2", "count 8");
    }

    void promise08CanBeUndoneAsOneCall() {
        canBeUndone("twenty nights", room(0, 0, "5,8", "17,20"), x -> x.sleep(20));
        canBeUndone("a night", room(0, 3, "5,8", "17,20"), x -> x.sleep(1));
        canBeUndone("nights of nothing", Rooms::lending, x -> x.sleep(2));
    }

    // ---- promise 9

    private static final int[] GREATEST = {1, 200, 9};
    private static final int[] AT_FIRST = {0, 20, 1};

    void promise09SettingOutOfRange() {
        refusesOutside(0, 2, INDEX, Rooms::livedIn, (x, setting) -> x.set(setting, 0));
    }

    void promise09ValueOutOfRange() {
        for (int i = 0; i < 3; i++) {
            int setting = i;
            refusesOutside(0, GREATEST[setting], ARGUMENT, Rooms::livedIn, (x, value) -> x.set(setting, value));
        }
    }

    void promise09LeastAndGreatestValue() {
        for (int setting = 0; setting < 3; setting++) {
            MagnetPoems x = Rooms.bare();
            due("to the greatest", x.set(setting, GREATEST[setting]), AT_FIRST[setting]);
            due("it is the greatest", x.setting(setting), GREATEST[setting]);
            due("to the least", x.set(setting, 0), GREATEST[setting]);
            due("it is the least", x.setting(setting), 0);
            due("again", x.set(setting, 0), 0);
        }
    }

    void promise09NoSuchSettingComesBeforeTheValue() {
        refuses("above, below", INDEX, Rooms::livedIn, x -> x.set(3, -1));
        refuses("below, above", INDEX, Rooms::livedIn, x -> x.set(-1, 201));
    }

    void promise09OnlyThisSetting() {
        changes("joints", Rooms::bare, x -> x.set(0, 1), "setting 0", "count 8");
        changes("how rich", Rooms::bare, x -> x.set(1, 200), "setting 1", "count 8");
        changes("nights watched", Rooms::bare, x -> x.set(2, 9), "setting 2", "count 8");
        changes("the same value", Rooms::loan, x -> x.set(1, 20), "count 8");
    }

    void promise09WhatStandsStays() {
        changes("joints at ends", () -> Rooms.with("3,0,7"), x -> x.set(0, 1), "setting 0", "count 8");
        Room watched = () -> after(room(0, 3, "5,8"), x -> x.sleep(1));
        answers("watched as before", 3, () -> after(watched, x -> x.set(2, 0)), x -> x.doorOf(0, 3));
        answers("watched for no more nights", 3, () -> after(watched, x -> x.set(2, 9)), x -> x.doorOf(0, 3));
        answers("stolen as before", 1, () -> after(watched, x -> x.set(1, 200)), x -> x.count(3));
    }

    void promise09CanBeUndone() {
        for (int i = 0; i < 3; i++) {
            int setting = i;
            canBeUndone("set " + setting, Rooms::loan, x -> x.set(setting, GREATEST[setting]));
            canBeUndone("set to the same", Rooms::loan, x -> x.set(setting, AT_FIRST[setting]));
        }
    }

    // ---- promise 26

    void promise26NoneIsStolen() {
        answers("bare doors", NONE, room(0, 1), x -> x.prey());
        answers("poor doors", NONE, room(15, 1, "5,8,1,12"), x -> x.prey());
        answers("watched doors", NONE, () -> after(room(0, 1, "5,8,1,12"), x -> x.sleep(1)), x -> x.prey());
    }

    void promise26OneIsStolen() {
        answers("just as rich", 5, room(14, 1, "5,8,1,12"), x -> x.prey());
        answers("the first word", 0, room(0, 1, "0"), x -> x.prey());
        answers("the last word", 39, room(0, 1, "", "", "", "39"), x -> x.prey());
    }

    void promise26AsSleepStealsIt() {
        MagnetPoems x = Rooms.set(Rooms.set(Rooms.emptyBag(), 1, 0), 2, 0);
        for (int stolen = 1; stolen <= 40; stolen++) {
            int prey = x.prey();
            due("a word", x.sleep(1), 1);
            due("that word", x.wordOf(prey, 6), 1);
        }
        due("none is left", x.prey(), NONE);
    }

    void promise26TheLimitOfNightsDoesNotMatter() {
        MagnetPoems x = lastNight();
        x.put(2, 3, 3, 0);
        x.set(1, 0);
        due("prey", x.prey(), 2);
    }

    void promise26NothingIsChanged() {
        leavesAll("prey", Rooms::livedIn, x -> x.prey());
        leavesAll("prey of a rich room", room(0, 3, "5,8", "17,20"), x -> x.prey());
    }

    // ---- promise 27

    void promise27NightsOutOfRange() {
        refusesOutside(1, 20, ARGUMENT, Rooms::livedIn, (x, nights) -> x.ifSlept(nights, 0));
    }

    void promise27DoorOutOfRange() {
        refusesOutside(0, 3, INDEX, Rooms::livedIn, (x, door) -> x.ifSlept(1, door));
    }

    void promise27NoSuchDoorComesBeforeTheNights() {
        refuses("no nights", INDEX, Rooms::livedIn, x -> x.ifSlept(0, 4));
        refuses("many nights", INDEX, Rooms::livedIn, x -> x.ifSlept(21, -1));
    }

    void promise27AsSleepLeavesIt() {
        Room[] rooms = {Rooms::livedIn, Rooms::bare, room(0, 0, "5,8,1/17,20,13", "2,14,26/4,21"),
            room(0, 1, "5,8,1/17,20,13", "2,14,26/4,21"), () -> Rooms.set(Rooms.emptyBag(), 1, 0),
            () -> Rooms.fullDoor(3)};
        for (Room room : rooms) {
            for (int i = 1; i <= 20; i++) {
                int nights = i;
                for (int k = 0; k < 4; k++) {
                    int door = k;
                    MagnetPoems slept = room.make();
                    slept.sleep(nights);
                    answers(nights + " nights", slept.doorOf(door, 0), room, x -> x.ifSlept(nights, door));
                }
            }
        }
    }

    void promise27TheLimitOfNightsDoesNotMatter() {
        MagnetPoems x = lastNight();
        x.put(2, 3, 3, 0);
        x.put(0, 3, 3, 1);
        x.set(1, 0);
        due("one night", x.ifSlept(1, 3), 1);
        due("twenty nights", x.ifSlept(20, 3), 0);
        due("as it is", x.doorOf(3, 0), 4);
        due("nights", x.count(2), LAST_NIGHT);
    }

    void promise27NothingIsChanged() {
        leavesAll("ifSlept", Rooms::livedIn, x -> x.ifSlept(20, 0));
        leavesAll("ifSlept in a rich room", room(0, 3, "5,8", "17,20"), x -> x.ifSlept(20, 3));
    }
}
