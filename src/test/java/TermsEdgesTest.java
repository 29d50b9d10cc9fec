/** Each sentence of 'Terms' (but 'Texts') that names a boundary, with a test of its own; the sentence stands above it. */
public final class TermsEdgesTest {
    private static final int NO_SUCH = -1, BAD_VALUE = -2, TOO_MANY = -4, NOT_POSSIBLE = -5, NONE = -6;
    private static final int OFF = 1000000000, STILL = OFF + 43200;
    private static final int[] FIRST = {60, 8, 5, 10}, MOST = {999, 30, 30, 30};
    private static final Check check = new Check();

    public static void main(String[] args) {
        callsOfOneObject();
        errorsInTheirOrder();
        noneIsNoError();
        numberedFromZero();
        setsAreBitMasks();
        divisionsAreRounded();
        settingsInTheirRanges();
        toldAtItsEnds();
        windAtItsEnds();
        stepAndWorkAtTheirEnds();
        sixteenClocks();
        clocksAtTheirEnds();
        driftAndScrewAtTheirEnds();
        fourLadders();
        noRungsNeedNone();
        atLeastItsRungs();
        shortestOrLowest();
        longerOneDoesNotDo();
        withoutLadderNotWound();
        newClockIsRight();
        driftBothWays();
        daysAreCounted();
        stillIsOffAlike();
        fromHouseZeroAndBack();
        stepsBetweenHouses();
        ladderFetchedFromItsHouse();
        oneLadderAtMost();
        ladderKept();
        ladderLeftAtTheEnd();
        goesFromThenOn();
        moreThanHalfOfTold();
        turnedDownOrUp();
        notBeyondTwenty();
        setInAnyCase();
        passedBy();
        changeOfThoseThatGo();
        check.end("TermsEdgesTest");
    }

    private static void due(String call, long want, long got) {
        check.due(call, want, got);
    }

    private static WinderLadders withClock(int house, int rungs, int drift) {
        WinderLadders beat = new WinderLadders();
        beat.hang(house, rungs, drift);
        return beat;
    }

    private static WinderLadders full() {
        WinderLadders beat = new WinderLadders();
        for (int i = 0; i < 16; i++) {
            beat.hang(i, i, i);
        }
        for (int i = 1; i <= 4; i++) {
            beat.ladder(i);
        }
        return beat;
    }

    /** "An object is used for at most 512 calls after it has been made": the last one of them is still answered. */
    private static void callsOfOneObject() {
        WinderLadders beat = withClock(99, 30, 99);
        beat.ladder(30);
        for (int i = 0; i < 127; i++) {
            due("round " + i, 3 * 99 * 5 + 99 * 5 + 10, beat.round(1));
            due("change " + i, 1, beat.change(0));
            due("change back " + i, 1, beat.change(1));
            due("undo " + i, Math.min(6, 2 + i * 2 + 3) - 1, beat.undo());
        }
        due("call 511", OFF + 3600, beat.of(0, 4));
        due("call 512", 127 * 1990, beat.count(6));
    }

    /** "it names its errors in the order in which they are checked, and the first one that applies is returned" */
    private static void errorsInTheirOrder() {
        WinderLadders fresh = new WinderLadders();
        due("screw: no clock, bad turns", NO_SUCH, fresh.screw(0, 21));
        due("of: no clock, bad what", NO_SUCH, fresh.of(0, -1));
        due("round: below 0, none that there is", BAD_VALUE, fresh.round(-1));
        due("takes: below 0, none that there is", BAD_VALUE, fresh.takes(-1));
        due("wayRound: below 0, none that there is", BAD_VALUE, fresh.wayRound(-1));
        due("restore: no slot, nothing saved", BAD_VALUE, fresh.restore(2));
        WinderLadders full = full();
        due("hang: bad value, full", BAD_VALUE, full.hang(100, 0, 0));
        due("ladder: bad value, full", BAD_VALUE, full.ladder(31));
        full.screw(0, 20);
        due("screw: bad turns, beyond", BAD_VALUE, full.screw(0, 21));
        due("ladderFor: full, one cannot be wound", TOO_MANY, full.ladderFor());
        for (int i = 0; i < 101; i++) {
            full.pass(99);
        }
        due("pass: bad days, too many", BAD_VALUE, full.pass(100));
        for (int i = 0; i < 10; i++) {
            full.put(Check.packed("s;s;s;s;"));
        }
        due("put: no character, full", BAD_VALUE, full.put(0));
        due("put: a bad code, full", BAD_VALUE, full.put(127));
        due("put: full", TOO_MANY, full.put('s'));
    }

    /** "NONE (-6) is not an error; it is returned only if no error applies." */
    private static void noneIsNoError() {
        WinderLadders beat = withClock(0, 0, 0);
        due("the ladder of a clock that needs none", NONE, beat.of(0, 8));
        due("the ladder of no clock", NO_SUCH, beat.of(1, 8));
        due("no ladder more", NONE, beat.ladderFor());
        for (int i = 0; i < 4; i++) {
            beat.ladder(1);
        }
        due("no ladder more, but four", TOO_MANY, beat.ladderFor());
        beat.put('s');
        due("no fault", NONE, beat.fault());
        due("is no change", 5, beat.count(13));
    }

    /** "Everything is numbered from 0." */
    private static void numberedFromZero() {
        WinderLadders beat = new WinderLadders();
        due("clock", 0, beat.hang(5, 5, 5));
        due("ladder", 0, beat.ladder(5));
        due("setting", 60, beat.set(0, 60));
        due("what of a clock", 5, beat.of(0, 0));
        due("what of all", 0, beat.count(0));
        due("rank", 0, beat.needs(0));
        due("slot", 1, beat.save(0));
        beat.put('x');
        due("character", 0, beat.fault());
    }

    /** "Sets of clocks are bit masks.": the lowest bit is the clock 0, bits from 16 on are no clocks. */
    private static void setsAreBitMasks() {
        WinderLadders beat = new WinderLadders();
        for (int i = 0; i < 16; i++) {
            beat.hang(0, 0, 0);
        }
        for (int i = 0; i < 16; i++) {
            due("clock " + i, 10, beat.round(1 << i));
            due("is wound", 1, beat.of(i, 10));
        }
        for (int i = 16; i < 31; i++) {
            due("no clock " + i, NOT_POSSIBLE, beat.round(1 << i));
            due("beside the last one", 10, beat.round(1 << i | 1 << 15));
        }
        due("bit 31", BAD_VALUE, beat.round(1 << 31 | 1));
        due("each clock", 160, beat.round(65535));
        beat.pass(9);
        due("a set of 16", 65535, beat.count(3));
        beat.round(65535 ^ 1 << 15);
        due("the last one", 1 << 15, beat.count(3));
    }

    /** "Divisions are rounded toward 0.": of TOLD / 2. */
    private static void divisionsAreRounded() {
        int[][] cases = {{1, 0, 20}, {1, 1, 19}, {2, 1, 20}, {2, 2, 19}, {3, 1, 20}, {3, 2, 19}, {5, 2, 20}, {5, 3, 19},
            {99, 49, 20}, {99, 50, 19}, {1, -1, 21}, {3, -1, 20}, {3, -2, 21}, {99, -49, 20}, {99, -50, 21}};
        for (int[] one : cases) {
            WinderLadders beat = withClock(0, 0, one[1]);
            beat.set(0, one[0]);
            beat.pass(1);
            beat.round(1);
            due("off by " + one[1] + " of " + one[0], one[2], beat.of(0, 3));
        }
    }

    /** "(In parentheses: range; first value.)" */
    private static void settingsInTheirRanges() {
        for (int setting = 0; setting < 4; setting++) {
            WinderLadders beat = new WinderLadders();
            int now = FIRST[setting];
            due("first value " + setting, now, beat.count(8 + setting));
            for (int value : Check.around(1, MOST[setting])) {
                boolean within = value >= 1 && value <= MOST[setting];
                due("set(" + setting + ", " + value + ")", within ? now : BAD_VALUE, beat.set(setting, value));
                now = within ? value : now;
                due("setting " + setting + " then", now, beat.count(8 + setting));
            }
            for (int other = 0; other < 4; other++) {
                due("others stay", other == setting ? now : FIRST[other], beat.count(8 + other));
            }
        }
    }

    /** "TOLD (1 to 999; 60): seconds by which a clock may be off" */
    private static void toldAtItsEnds() {
        WinderLadders beat = withClock(0, 0, 1);
        beat.set(0, 1);
        beat.pass(1);
        due("1 of 1", 1, beat.of(0, 7));
        due("1 of 1, of all", 0, beat.count(4));
        beat.pass(1);
        due("2 of 1", 0, beat.of(0, 7));
        due("2 of 1, of all", 1, beat.count(4));
        beat = withClock(0, 0, 99);
        beat.set(0, 999);
        beat.set(1, 30);
        beat.screw(0, 4);
        beat.pass(9);
        due("999 of 999", OFF + 999, beat.of(0, 4));
        due("999 is told", 1, beat.of(0, 7));
        beat.hang(0, 0, -97);
        beat.screw(1, -1);
        beat.pass(10);
        due("1000, slow", OFF - 1000, beat.of(1, 4));
        due("is more than 999", 0, beat.of(1, 7));
    }

    /** "WIND (1 to 30; 8): days that a clock goes when it was wound" */
    private static void windAtItsEnds() {
        int[] winds = {1, 8, 30};
        for (int wind : winds) {
            WinderLadders beat = withClock(0, 0, 2);
            beat.set(1, wind);
            due("goes for " + wind, 0, beat.pass(wind));
            due("it goes", 1, beat.of(0, 6));
            due("by its drift", OFF + 2 * wind, beat.of(0, 4));
            due("one day more than " + wind, 1, beat.pass(1));
            due("stands still", 0, beat.of(0, 6));
            beat.round(1);
            due("wound, for as many", 0, beat.pass(wind));
            due("and no more", 1, beat.pass(1));
        }
    }

    /** "STEP (1 to 30; 5)", "WORK (1 to 30; 10)" */
    private static void stepAndWorkAtTheirEnds() {
        WinderLadders beat = withClock(99, 0, 0);
        beat.hang(0, 0, 0);
        beat.set(2, 1);
        beat.set(3, 1);
        due("least", 198 + 1, beat.takes(1));
        due("no way", 1, beat.takes(2));
        beat.set(2, 30);
        due("most steps", 198 * 30 + 1, beat.takes(1));
        beat.set(3, 30);
        due("most of both", 198 * 30 + 30, beat.takes(1));
        due("most work alone", 30, beat.takes(2));
        due("both clocks", 198 * 30 + 60, beat.round(3));
    }

    /** "There are up to 16 clocks, numbered in the order in which they were hung" */
    private static void sixteenClocks() {
        WinderLadders beat = new WinderLadders();
        for (int i = 0; i < 16; i++) {
            due("no clock " + i + " yet", NO_SUCH, beat.of(i, 0));
            due("clock " + i, i, beat.hang(90 - i, i, -i));
            due("clocks", i + 1, beat.count(1));
        }
        due("the 17th", TOO_MANY, beat.hang(0, 0, 0));
        due("clocks stay 16", 16, beat.count(1));
        for (int i = 0; i < 16; i++) {
            due("house " + i, 90 - i, beat.of(i, 0));
            due("rungs " + i, i, beat.of(i, 1));
            due("drift " + i, 100 - i, beat.of(i, 2));
        }
        due("no clock 16", NO_SUCH, beat.of(16, 0));
        beat.undo();
        due("one is gone", NO_SUCH, beat.of(15, 0));
        due("there is room again", 15, beat.hang(1, 1, 1));
        due("but for one", TOO_MANY, beat.hang(1, 1, 1));
    }

    /** "each in a house (0 to 99), so many rungs high (0 to 30), with a drift (-99 to 99 seconds in a day)" */
    private static void clocksAtTheirEnds() {
        hangsWithin(0, 0, 99);
        hangsWithin(1, 0, 30);
        hangsWithin(2, -99, 99);
    }

    private static void hangsWithin(int place, int least, int most) {
        int[] told = {0, 0, 100};
        for (int value : Check.around(least, most)) {
            WinderLadders beat = new WinderLadders();
            int[] clock = {0, 0, 0};
            clock[place] = value;
            boolean within = value >= least && value <= most;
            String what = "argument " + place + " of " + value;
            due(what, within ? 0 : BAD_VALUE, beat.hang(clock[0], clock[1], clock[2]));
            due(what + ", clocks", within ? 1 : 0, beat.count(1));
            due(what + ", changes", within ? 1 : 0, beat.count(13));
            due(what + ", told", within ? value + told[place] : NO_SUCH, beat.of(0, place));
        }
    }

    /** "a screw (-20 to 20; 0 at first): its drift is changed by 3 seconds in a day for each turn of the screw" */
    private static void driftAndScrewAtTheirEnds() {
        int[][] cases = {{99, 20, 159}, {-99, -20, -159}, {99, -20, 39}, {-99, 20, -39}, {0, 20, 60}, {0, -20, -60},
            {60, -20, 0}, {0, 1, 3}, {0, -1, -3}};
        for (int[] one : cases) {
            WinderLadders beat = withClock(0, 0, one[0]);
            due("screw at first", 20, beat.of(0, 3));
            due("screw then", one[1] + 20, beat.screw(0, one[1]));
            beat.pass(1);
            due("drift " + one[0] + " with " + one[1], OFF + one[2], beat.of(0, 4));
            due("drift by itself stays", one[0] + 100, beat.of(0, 2));
            beat.pass(7);
            due("eight days of it", OFF + 8 * one[2], beat.of(0, 4));
        }
    }

    /** "There are up to 4 ladders, each of some rungs (1 to 30)." */
    private static void fourLadders() {
        for (int rungs : Check.around(1, 30)) {
            WinderLadders beat = new WinderLadders();
            boolean within = rungs >= 1 && rungs <= 30;
            due("ladder(" + rungs + ")", within ? 0 : BAD_VALUE, beat.ladder(rungs));
            due("ofLadder of " + rungs, within ? rungs : NO_SUCH, beat.ofLadder(0));
            due("changes of " + rungs, within ? 1 : 0, beat.count(13));
        }
        WinderLadders beat = new WinderLadders();
        for (int i = 0; i < 4; i++) {
            due("no ladder " + i + " yet", NO_SUCH, beat.ofLadder(i));
            due("ladder " + i, i, beat.ladder(30 - i));
        }
        due("the fifth", TOO_MANY, beat.ladder(1));
        due("ladders stay 4", 4, beat.count(2));
        due("no ladder 4", NO_SUCH, beat.ofLadder(4));
        for (int i = 0; i < 4; i++) {
            due("rungs of " + i, 30 - i, beat.ofLadder(i));
        }
    }

    /** "A clock of 0 rungs needs none": also where there are ladders, and with no way for one. */
    private static void noRungsNeedNone() {
        WinderLadders beat = withClock(9, 0, 0);
        due("without ladders", 9 * 10 + 10, beat.takes(1));
        beat.ladder(1);
        due("none", NONE, beat.of(0, 8));
        due("can be wound", 1, beat.of(0, 9));
        due("no way for it", 9 * 10 + 10, beat.round(1));
        due("is wound", 1, beat.of(0, 10));
    }

    /** "another one needs a ladder of at least its rungs" */
    private static void atLeastItsRungs() {
        int[] heights = {1, 2, 15, 29, 30};
        for (int rungs : heights) {
            WinderLadders beat = withClock(0, rungs, 0);
            if (rungs > 1) {
                beat.ladder(rungs - 1);
                due("one rung less than " + rungs, NONE, beat.of(0, 8));
                due("cannot be wound", 0, beat.of(0, 9));
                due("of all", 1, beat.count(5));
            }
            int like = beat.ladder(rungs);
            due("just as long as " + rungs, like, beat.of(0, 8));
            due("can be wound", 1, beat.of(0, 9));
            due("all can", 0, beat.count(5));
        }
    }

    /** "the shortest such one is taken, of like ones the lowest number" */
    private static void shortestOrLowest() {
        int[][] cases = {{30, 20, 10, 9, 2}, {9, 10, 20, 30, 1}, {10, 10, 10, 10, 0}, {30, 11, 11, 12, 1},
            {12, 30, 11, 11, 2}, {9, 9, 9, 30, 3}, {1, 1, 1, 1, NONE}, {30, 30, 29, 29, 2}, {11, 10, 10, 11, 1}};
        for (int[] one : cases) {
            WinderLadders beat = withClock(0, 10, 0);
            for (int i = 0; i < 4; i++) {
                beat.ladder(one[i]);
            }
            due("of " + one[0] + ", " + one[1] + ", " + one[2] + ", " + one[3], one[4], beat.of(0, 8));
        }
    }

    /** "(a longer one that is with the winder does not do)" */
    private static void longerOneDoesNotDo() {
        WinderLadders beat = withClock(4, 8, 0);
        beat.hang(4, 7, 0);
        beat.ladder(8);
        due("one ladder does for both", (4 + 8 + 4) * 5 + 20, beat.takes(3));
        beat.ladder(7);
        due("the shorter one is fetched", (4 + 8 + 8 + 4) * 5 + 20, beat.takes(3));
        beat.ladder(8);
        due("a like one is not", (4 + 8 + 8 + 4) * 5 + 20, beat.takes(3));
    }

    /** "A clock for which there is none cannot be wound." */
    private static void withoutLadderNotWound() {
        WinderLadders beat = withClock(0, 1, 0);
        due("no ladders", 0, beat.of(0, 9));
        due("needs what there is not", NONE, beat.of(0, 8));
        due("of all", 1, beat.count(5));
        due("no work", 0, beat.round(1));
        due("not wound", 0, beat.of(0, 10) + beat.count(7));
        due("but the winder went", 2, beat.count(13));
    }

    /** "It is off by some seconds (above 0 it is fast; 0 at first, and it is wound)." */
    private static void newClockIsRight() {
        WinderLadders beat = new WinderLadders();
        beat.pass(99);
        beat.change(0);
        beat.hang(0, 0, 99);
        due("off", OFF, beat.of(0, 4));
        due("days since it was wound", 0, beat.of(0, 5));
        due("goes", 1, beat.of(0, 6));
        due("how often", 0, beat.of(0, 10));
        due("goes for 8 days from then on", 0, beat.pass(8));
        due("and no more", 1, beat.pass(1));
    }

    /** "each clock that goes is off by its drift and 3 * screw seconds more (below 0: less)" */
    private static void driftBothWays() {
        WinderLadders beat = withClock(0, 0, 1);
        beat.hang(0, 0, -1);
        beat.hang(0, 0, 0);
        beat.pass(8);
        due("fast", OFF + 8, beat.of(0, 4));
        due("slow", OFF - 8, beat.of(1, 4));
        due("right", OFF, beat.of(2, 4));
        beat.round(7);
        beat.screw(0, -1);
        beat.screw(1, 1);
        beat.pass(8);
        due("slow by the screw", OFF - 16, beat.of(0, 4));
        due("fast by the screw", OFF + 16, beat.of(1, 4));
    }

    /** "one day more went by since each clock was wound (also of one that stands still)" */
    private static void daysAreCounted() {
        WinderLadders beat = withClock(0, 0, 0);
        beat.hang(0, 9, 0);
        for (int day = 1; day <= 20; day++) {
            beat.pass(1);
            due("day " + day, day, beat.of(0, 5));
            due("goes on day " + day, day <= 8 ? 1 : 0, beat.of(0, 6));
        }
        beat.round(3);
        due("wound", 0, beat.of(0, 5));
        due("not wound", 20, beat.of(1, 5));
        beat.pass(99);
        due("99 at once", 99, beat.of(0, 5));
        due("119", 119, beat.of(1, 5));
    }

    /** "A clock that stands still is off by 43200 seconds, as long as it does." */
    private static void stillIsOffAlike() {
        int[] drifts = {99, -99, 0};
        for (int drift : drifts) {
            WinderLadders beat = withClock(0, 0, drift);
            beat.pass(8);
            due("the last day", OFF + 8 * drift, beat.of(0, 4));
            beat.pass(1);
            due("still", STILL, beat.of(0, 4));
            beat.pass(99);
            due("days do not matter", STILL, beat.of(0, 4));
            beat.change(0);
            beat.change(1);
            beat.change(1);
            due("nor the change", STILL, beat.of(0, 4));
            beat.screw(0, 20);
            beat.pass(1);
            due("nor the screw", STILL, beat.of(0, 4));
            beat.set(1, 30);
            beat.pass(1);
            due("nor a longer time", STILL, beat.of(0, 4));
            due("more than told", 0, beat.of(0, 7));
            beat.round(1);
            due("till it goes", OFF, beat.of(0, 4));
        }
    }

    /** "from the house 0 and back to it in the end" */
    private static void fromHouseZeroAndBack() {
        int[] houses = {0, 1, 50, 98, 99};
        for (int house : houses) {
            due("there and back, " + house, 2 * house * 5 + 10, withClock(house, 0, 0).round(1));
        }
    }

    /** "From a house to another one it takes STEP minutes for each number between them." */
    private static void stepsBetweenHouses() {
        WinderLadders beat = withClock(99, 0, 0);
        beat.hang(0, 0, 0);
        beat.hang(99, 0, 0);
        beat.hang(99, 0, 0);
        beat.hang(98, 0, 0);
        due("down and up", 4 * 99 * 5 + 30, beat.takes(7));
        due("no way in the same house", 2 * 99 * 5 + 20, beat.takes(12));
        due("one number down", 2 * 99 * 5 + 20, beat.takes(24));
        due("all", (4 * 99) * 5 + 50, beat.takes(31));
    }

    /** "the winder goes from the clock's house to the house 0 ... and back with it" */
    private static void ladderFetchedFromItsHouse() {
        int[] houses = {0, 1, 50, 98, 99};
        for (int house : houses) {
            WinderLadders beat = withClock(house, 1, 0);
            beat.ladder(30);
            due("there, for the ladder, and back, " + house, 4 * house * 5 + 10, beat.round(1));
        }
    }

    /** "and leaves there what was carried; a winder carries one ladder at most" */
    private static void oneLadderAtMost() {
        WinderLadders beat = withClock(3, 5, 0);
        beat.hang(3, 9, 0);
        beat.hang(3, 5, 0);
        beat.hang(3, 9, 0);
        beat.ladder(9);
        beat.ladder(5);
        due("each one is fetched again", (3 + 4 * 6 + 3) * 5 + 40, beat.takes(15));
        due("but not for the next one of like rungs", (3 + 6 + 3) * 5 + 20, beat.takes(5));
        beat.hang(0, 9, 0);
        beat.hang(2, 5, 0);
        due("what was carried is left when another one is taken", (3 + 6 + 3 + 2 + 4 + 2) * 5 + 30, beat.takes(49));
    }

    /** "and keeps it when the next clock needs another one or none, until it is left at the house 0 so" */
    private static void ladderKept() {
        WinderLadders beat = withClock(3, 5, 0);
        beat.hang(9, 0, 0);
        beat.hang(7, 30, 0);
        beat.hang(0, 0, 0);
        beat.hang(3, 5, 0);
        beat.ladder(5);
        due("kept by a clock of 0 rungs", (3 + 6 + 6 + 6 + 3) * 5 + 30, beat.takes(19));
        due("kept by one that cannot be wound", (3 + 6 + 4 + 4 + 3) * 5 + 20, beat.takes(21));
        due("kept in the house 0", (3 + 6 + 3 + 3 + 3) * 5 + 30, beat.takes(25));
    }

    /** "or at the end": the next beat begins without a ladder. */
    private static void ladderLeftAtTheEnd() {
        WinderLadders beat = withClock(3, 5, 0);
        beat.ladder(5);
        due("first beat", 12 * 5 + 10, beat.round(1));
        due("second beat", 12 * 5 + 10, beat.round(1));
        Check.write(beat, "b0,0;b0");
        due("two beats", 2, beat.carryOut());
        due("of a text", 4 * 12 * 5 + 50, beat.count(6));
    }

    /** "At a clock the winder works for WORK minutes: it is wound, and goes from then on." */
    private static void goesFromThenOn() {
        WinderLadders beat = withClock(0, 0, 3);
        beat.pass(8);
        due("wound on the last day", 10, beat.round(1));
        due("goes on", 0, beat.pass(8));
        beat.pass(1);
        due("stands still", 1, beat.count(3));
        beat.round(1);
        due("goes", 0, beat.count(3));
        due("days since", 0, beat.of(0, 5));
        due("how often", 2, beat.of(0, 10));
        beat.pass(1);
        due("by its drift", OFF + 3, beat.of(0, 4));
    }

    /** "If it went ahead of that, and is off by more than TOLD / 2, either way, the screw is turned by 1" */
    private static void moreThanHalfOfTold() {
        int[][] cases = {{30, 20}, {31, 19}, {-30, 20}, {-31, 21}, {1, 20}, {0, 20}, {99, 19}, {-99, 21}};
        for (int[] one : cases) {
            WinderLadders beat = withClock(0, 0, one[0]);
            beat.pass(1);
            beat.round(1);
            due("off by " + one[0], one[1], beat.of(0, 3));
        }
        WinderLadders beat = withClock(0, 0, 9);
        beat.hang(0, 0, -9);
        beat.pass(9);
        due("both stand still", 3, beat.count(3));
        beat.round(3);
        due("fast one that stood still", 20, beat.of(0, 3));
        due("slow one that stood still", 20, beat.of(1, 3));
        beat.change(0);
        Check.write(beat, "b0,0,1,1,1");
        beat.carryOut();
        due("turned by 1, though wound twice", 19, beat.of(0, 3));
        due("turned by 1, though wound three times", 21, beat.of(1, 3));
    }

    /** "down if its drift with the screw is above 0, up if that is below 0": not at 0; by the drift, not by what it is off. */
    private static void turnedDownOrUp() {
        int[][] cases = {{0, 0, 0}, {1, 0, -1}, {-1, 0, 1}, {3, -1, -1}, {4, -1, -2}, {2, -1, 0}, {-3, 1, 1}, {-2, 1, 0},
            {-4, 1, 2}, {60, -20, -20}, {59, -20, -19}, {-60, 20, 20}, {-59, 20, 19}};
        for (int[] one : cases) {
            for (int autumn = 0; autumn < 2; autumn++) {
                WinderLadders beat = withClock(0, 0, one[0]);
                beat.screw(0, one[1]);
                beat.change(autumn);
                beat.round(1);
                due("drift " + one[0] + ", screw " + one[1] + ", " + autumn, one[2] + 20, beat.of(0, 3));
            }
        }
    }

    /** "but not beyond -20 to 20" */
    private static void notBeyondTwenty() {
        int[][] cases = {{99, -18, -19}, {99, -19, -20}, {99, -20, -20}, {61, -20, -20}, {-99, 18, 19}, {-99, 19, 20},
            {-99, 20, 20}, {-61, 20, 20}};
        for (int[] one : cases) {
            WinderLadders beat = withClock(0, 0, one[0]);
            beat.screw(0, one[1]);
            beat.change(0);
            due("minutes", 10, beat.round(1));
            due("drift " + one[0] + ", screw " + one[1], one[2] + 20, beat.of(0, 3));
            due("set", OFF, beat.of(0, 4));
            due("wound", 1, beat.of(0, 10));
        }
    }

    /** "In any case it is set: off by 0." */
    private static void setInAnyCase() {
        WinderLadders beat = withClock(0, 0, 1);
        beat.hang(0, 0, 0);
        beat.hang(0, 0, 99);
        beat.pass(8);
        beat.round(7);
        for (int i = 0; i < 3; i++) {
            due("set " + i, OFF, beat.of(i, 4));
        }
        beat.pass(9);
        beat.round(7);
        due("set when they stood still", 0, beat.count(4));
    }

    /** "A clock that cannot be wound is passed by: the winder goes there, and does not work." */
    private static void passedBy() {
        WinderLadders beat = withClock(9, 2, 33);
        beat.ladder(1);
        beat.pass(2);
        due("the way alone", 18 * 5, beat.round(1));
        due("off as it was", OFF + 66, beat.of(0, 4));
        due("not wound", 2, beat.of(0, 5));
        due("not turned", 20, beat.of(0, 3));
        due("minutes of all", 90, beat.count(6));
        beat.pass(7);
        beat.round(1);
        due("stands still on", 1, beat.count(3));
    }

    /** "all clocks that go are put off by 3600 seconds ... what they are off is changed by so much" */
    private static void changeOfThoseThatGo() {
        WinderLadders beat = withClock(0, 0, 99);
        beat.hang(0, 0, -99);
        beat.pass(1);
        beat.change(1);
        due("fast one in autumn", OFF + 99 - 3600, beat.of(0, 4));
        due("slow one in autumn", OFF - 99 - 3600, beat.of(1, 4));
        beat.change(0);
        beat.change(0);
        due("fast one in spring", OFF + 99 + 3600, beat.of(0, 4));
        due("slow one in spring", OFF - 99 + 3600, beat.of(1, 4));
        for (int i = 0; i < 40; i++) {
            beat.change(1);
        }
        due("again and again", OFF + 99 + 3600 - 144000, beat.of(0, 4));
        beat.pass(8);
        due("none goes", 0, beat.change(1));
        due("still ones stay", STILL, beat.of(0, 4));
        due("is a change", 6, beat.count(13));
    }
}
