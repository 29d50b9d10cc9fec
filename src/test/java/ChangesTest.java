/** Promises 1 to 8: a new object, and the calls that change one. */
public final class ChangesTest {
    private static final int NO_SUCH = -1, BAD_VALUE = -2, TOO_MANY = -4, NOT_POSSIBLE = -5, NONE = -6;
    private static final int OFF = 1000000000;
    private static final Check check = new Check();

    public static void main(String[] args) {
        newObject();
        set();
        hang();
        ladder();
        screw();
        roundWay();
        roundLadders();
        roundSets();
        roundTurns();
        pass();
        passStill();
        change();
        check.end("ChangesTest");
    }

    private static void newObject() {
        WinderLadders beat = new WinderLadders();
        int[] counts = {0, 0, 0, 0, 0, 0, 0, 0, 60, 8, 5, 10, 0, 0};
        for (int what = 0; what < counts.length; what++) {
            check.due("1: count(" + what + ")", counts[what], beat.count(what));
        }
        check.due("1: of", NO_SUCH, beat.of(0, 0));
        check.due("1: ofLadder", NO_SUCH, beat.ofLadder(0));
        check.due("1: ladderFor", NONE, beat.ladderFor());
        check.due("1: undo", NOT_POSSIBLE, beat.undo());
        check.due("1: restore 0", NOT_POSSIBLE, beat.restore(0));
        check.due("1: restore 1", NOT_POSSIBLE, beat.restore(1));
        check.due("1: pass", 0, beat.pass(1));
        check.due("1: change", 0, beat.change(0));
    }

    private static void set() {
        WinderLadders beat = new WinderLadders();
        int[] first = {60, 8, 5, 10};
        int[] most = {999, 30, 30, 30};
        for (int setting = 0; setting < 4; setting++) {
            check.due("2: set most " + setting, first[setting], beat.set(setting, most[setting]));
            check.due("2: set too much " + setting, BAD_VALUE, beat.set(setting, most[setting] + 1));
            check.due("2: set 0 " + setting, BAD_VALUE, beat.set(setting, 0));
            check.due("2: set below 0 " + setting, BAD_VALUE, beat.set(setting, Integer.MIN_VALUE));
            check.due("2: set 1 " + setting, most[setting], beat.set(setting, 1));
            check.due("2: count " + setting, 1, beat.count(8 + setting));
        }
        check.due("2: no setting -1", BAD_VALUE, beat.set(-1, 5));
        check.due("2: no setting 4", BAD_VALUE, beat.set(4, 5));
        check.due("2: no setting most", BAD_VALUE, beat.set(Integer.MAX_VALUE, 5));
        check.due("2: errors record nothing", 6, beat.count(13));
        check.due("2: undo", 5, beat.undo());
        check.due("2: previous is back", 30, beat.count(11));
    }

    private static void hang() {
        WinderLadders beat = new WinderLadders();
        int[][] wrong = {{-1, 0, 0}, {100, 0, 0}, {0, -1, 0}, {0, 31, 0}, {0, 0, -100}, {0, 0, 100}};
        for (int[] clock : wrong) {
            check.due("3: hang wrong", BAD_VALUE, beat.hang(clock[0], clock[1], clock[2]));
        }
        check.due("3: no clock yet", 0, beat.count(1));
        check.due("3: first", 0, beat.hang(99, 30, -99));
        check.due("3: second", 1, beat.hang(0, 0, 99));
        int[] first = {99, 30, 1, 20, OFF, 0, 1, 1, NONE, 0, 0};
        int[] second = {0, 0, 199, 20, OFF, 0, 1, 1, NONE, 1, 0};
        for (int what = 0; what < 11; what++) {
            check.due("3: of(0, " + what + ")", first[what], beat.of(0, what));
            check.due("3: of(1, " + what + ")", second[what], beat.of(1, what));
        }
        beat.pass(5);
        beat.screw(1, 4);
        beat.undo();
        beat.undo();
        beat.undo();
        check.due("3: where another one was", 1, beat.hang(1, 2, 3));
        check.due("3: screw of a new one", 20, beat.of(1, 3));
        for (int i = 2; i < 16; i++) {
            check.due("3: number", i, beat.hang(i, i, i));
        }
        check.due("3: 17th", TOO_MANY, beat.hang(0, 0, 0));
        check.due("3: 17th and wrong", BAD_VALUE, beat.hang(0, 0, 100));
        check.due("3: clocks", 16, beat.count(1));
    }

    private static void ladder() {
        WinderLadders beat = new WinderLadders();
        check.due("4: 0 rungs", BAD_VALUE, beat.ladder(0));
        check.due("4: 31 rungs", BAD_VALUE, beat.ladder(31));
        check.due("4: below 0", BAD_VALUE, beat.ladder(Integer.MIN_VALUE));
        int[] rungs = {1, 30, 7, 7};
        for (int i = 0; i < 4; i++) {
            check.due("4: ladder", i, beat.ladder(rungs[i]));
        }
        check.due("4: fifth", TOO_MANY, beat.ladder(5));
        check.due("4: fifth and wrong", BAD_VALUE, beat.ladder(31));
        check.due("4: ladders", 4, beat.count(2));
        check.due("4: changes", 4, beat.count(13));
        for (int i = 0; i < 4; i++) {
            check.due("4: rungs", rungs[i], beat.ofLadder(i));
        }
    }

    private static void screw() {
        WinderLadders beat = new WinderLadders();
        check.due("5: no clock", NO_SUCH, beat.screw(0, 0));
        beat.hang(0, 0, 10);
        check.due("5: no clock, wrong turns", NO_SUCH, beat.screw(1, 21));
        check.due("5: clock below 0", NO_SUCH, beat.screw(-1, 0));
        check.due("5: 21 turns", BAD_VALUE, beat.screw(0, 21));
        check.due("5: -21 turns", BAD_VALUE, beat.screw(0, -21));
        check.due("5: 20 turns", 40, beat.screw(0, 20));
        check.due("5: beyond 20", NOT_POSSIBLE, beat.screw(0, 1));
        check.due("5: no turn", 40, beat.screw(0, 0));
        check.due("5: -20 turns", 20, beat.screw(0, -20));
        check.due("5: -20 turns more", 0, beat.screw(0, -20));
        check.due("5: beyond -20", NOT_POSSIBLE, beat.screw(0, -1));
        check.due("5: 3 turns", 3, beat.screw(0, 3));
        check.due("5: off is as it was", OFF, beat.of(0, 4));
        beat.pass(1);
        check.due("5: drift is 10 - 17 * 3", OFF - 41, beat.of(0, 4));
        check.due("5: drift by itself is as it was", 110, beat.of(0, 2));
    }

    /** The way: 5 minutes for each number, 10 at each clock. */
    private static void roundWay() {
        WinderLadders beat = new WinderLadders();
        beat.hang(10, 0, 0);
        beat.hang(4, 0, 0);
        beat.hang(4, 0, 0);
        check.due("6: 10 there, 6 back, 0, 4 back", 20 * 5 + 30, beat.round(7));
        check.due("6: one clock", 8 * 5 + 10, beat.round(4));
        check.due("6: minutes of all", 180, beat.count(6));
        check.due("6: wound", 4, beat.count(7));
        check.due("6: wound twice", 2, beat.of(2, 10));
        beat.set(2, 30);
        beat.set(3, 1);
        check.due("6: settings", 20 * 30 + 2, beat.round(3));
    }

    private static void roundLadders() {
        WinderLadders beat = new WinderLadders();
        beat.hang(2, 5, 0);
        beat.hang(3, 0, 0);
        beat.hang(4, 5, 0);
        beat.hang(6, 9, 0);
        beat.hang(7, 4, 0);
        check.due("6: none can be wound", 2 * 7 * 5, beat.round(1 | 8 | 16));
        check.due("6: nothing was wound", 0, beat.count(7));
        beat.ladder(5);
        check.due("6: ladder fetched once, carried by a clock of 0 rungs", 8 * 5 + 4 * 5 + 30, beat.round(7));
        check.due("6: carried by a clock that cannot be wound", (14 + 4) * 5 + 30, beat.round(1 | 4 | 8 | 16));
        check.due("6: not wound", 0, beat.of(3, 10));
        beat.ladder(9);
        check.due("6: another ladder, then the first one again", (14 + 4 + 12 + 14) * 5 + 40, beat.round(1 | 4 | 8 | 16));
        beat.ladder(4);
        check.due("6: a longer one that is carried does not do", (14 + 4 + 14) * 5 + 20, beat.round(1 | 16));
        beat.hang(0, 4, 0);
        beat.hang(1, 4, 0);
        check.due("6: at the house 0 a ladder needs no way", 2 * 5 + 20, beat.round(32 | 64));
        check.due("6: a new beat begins without a ladder", (2 + 2) * 5 + 10, beat.round(64));
    }

    private static void roundSets() {
        WinderLadders beat = new WinderLadders();
        check.due("6: no clocks", NOT_POSSIBLE, beat.round(Integer.MAX_VALUE));
        check.due("6: below 0 ahead of none", BAD_VALUE, beat.round(-1));
        beat.hang(1, 0, 0);
        check.due("6: empty set", NOT_POSSIBLE, beat.round(0));
        check.due("6: no such clocks", NOT_POSSIBLE, beat.round(Integer.MAX_VALUE - 1));
        check.due("6: below 0", BAD_VALUE, beat.round(Integer.MIN_VALUE + 1));
        check.due("6: clocks that there are not", 20, beat.round(Integer.MAX_VALUE));
        check.due("6: changes", 2, beat.count(13));
        for (int i = 1; i < 16; i++) {
            beat.hang(1, 0, 0);
        }
        check.due("6: the last clock", 20, beat.round(1 << 15));
        check.due("6: the last clock is wound", 1, beat.of(15, 10));
        check.due("6: no 17th", NOT_POSSIBLE, beat.round(1 << 16));
    }

    private static void roundTurns() {
        WinderLadders beat = new WinderLadders();
        beat.hang(0, 0, 15);
        beat.hang(0, 0, -16);
        beat.hang(0, 0, 0);
        beat.pass(2);
        beat.round(7);
        check.due("6: off by 30 is not more than 60 / 2", 20, beat.of(0, 3));
        check.due("6: slow by 32", 21, beat.of(1, 3));
        check.due("6: set", OFF, beat.of(1, 4));
        check.due("6: days since", 0, beat.of(1, 5));
        beat.set(0, 61);
        beat.pass(2);
        beat.round(1);
        check.due("6: 61 / 2 is 30", 20, beat.of(0, 3));
        beat.set(0, 1);
        beat.change(0);
        beat.round(7);
        check.due("6: fast by the change, drift above 0", 19, beat.of(0, 3));
        check.due("6: fast by the change, drift below 0", 22, beat.of(1, 3));
        check.due("6: fast by the change, no drift", 20, beat.of(2, 3));
        beat.screw(0, -4);
        beat.change(1);
        beat.round(1);
        check.due("6: drift 15 - 5 * 3 is 0", 15, beat.of(0, 3));
        beat.screw(0, -1);
        beat.change(1);
        beat.round(1);
        check.due("6: drift with the screw below 0", 15, beat.of(0, 3));
        turnsBesideNone();
        turnsAtTheEnds();
        turnsOfStill();
    }

    private static void turnsBesideNone() {
        WinderLadders beat = new WinderLadders();
        beat.hang(0, 0, 1);
        beat.hang(0, 0, -1);
        beat.change(0);
        beat.round(3);
        check.due("6: drift 1", 19, beat.of(0, 3));
        check.due("6: drift -1", 21, beat.of(1, 3));
        beat.change(0);
        beat.round(3);
        check.due("6: drift -2 with the screw", 20, beat.of(0, 3));
        check.due("6: drift 2 with the screw", 20, beat.of(1, 3));
    }

    private static void turnsAtTheEnds() {
        WinderLadders beat = new WinderLadders();
        beat.hang(0, 0, 99);
        beat.hang(0, 0, -99);
        beat.screw(0, -19);
        beat.screw(1, 19);
        beat.pass(2);
        beat.round(3);
        check.due("6: to the lower end", 0, beat.of(0, 3));
        check.due("6: to the upper end", 40, beat.of(1, 3));
        beat.pass(2);
        check.due("6: on with drift 39", OFF + 78, beat.of(0, 4));
        beat.round(3);
        check.due("6: not beyond the lower end", 0, beat.of(0, 3));
        check.due("6: not beyond the upper end", 40, beat.of(1, 3));
        check.due("6: set at the end", OFF, beat.of(0, 4));
    }

    private static void turnsOfStill() {
        WinderLadders beat = new WinderLadders();
        beat.hang(0, 0, 99);
        beat.hang(0, 3, 99);
        beat.pass(9);
        check.due("6: both stand still", 3, beat.count(3));
        beat.round(3);
        check.due("6: the screw of one that stood still", 20, beat.of(0, 3));
        check.due("6: it goes", 1, beat.of(0, 6));
        check.due("6: it is set", OFF, beat.of(0, 4));
        check.due("6: the other one stands still", 2, beat.count(3));
        check.due("6: and is off", OFF + 43200, beat.of(1, 4));
        check.due("6: and not wound", 9, beat.of(1, 5));
    }

    private static void pass() {
        WinderLadders beat = new WinderLadders();
        check.due("7: 0 days", BAD_VALUE, beat.pass(0));
        check.due("7: 100 days", BAD_VALUE, beat.pass(100));
        check.due("7: below 0", BAD_VALUE, beat.pass(Integer.MIN_VALUE));
        beat.hang(0, 0, 7);
        for (int i = 1; i <= 101; i++) {
            beat.pass(99);
        }
        check.due("7: 9999 days", 9999, beat.count(0));
        check.due("7: one day more", NOT_POSSIBLE, beat.pass(1));
        check.due("7: too many, and out of range", BAD_VALUE, beat.pass(100));
        check.due("7: days since", 9999, beat.of(0, 5));
        beat.undo();
        check.due("7: 9900 days", 9900, beat.count(0));
        beat.pass(98);
        check.due("7: two days more", NOT_POSSIBLE, beat.pass(2));
        check.due("7: the last day", 1, beat.pass(1));
    }

    private static void passStill() {
        WinderLadders beat = new WinderLadders();
        beat.hang(0, 0, 7);
        beat.hang(0, 0, -3);
        check.due("7: eight days", 0, beat.pass(8));
        check.due("7: fast", OFF + 56, beat.of(0, 4));
        check.due("7: slow", OFF - 24, beat.of(1, 4));
        beat.round(2);
        check.due("7: one is wound", 1, beat.pass(1));
        check.due("7: stands still", OFF + 43200, beat.of(0, 4));
        check.due("7: days of one that stands still", 9, beat.of(0, 5));
        beat.pass(2);
        check.due("7: still off", OFF + 43200, beat.of(0, 4));
        check.due("7: days go on", 11, beat.of(0, 5));
        beat.set(1, 30);
        check.due("7: a longer time does not make it go", 1, beat.pass(1));
        beat.set(1, 1);
        check.due("7: a shorter one does not stop at once", 1, beat.count(3));
        check.due("7: but when a day passes", 2, beat.pass(1));
        check.due("7: slow clocks stand still alike", OFF + 43200, beat.of(1, 4));
    }

    private static void change() {
        WinderLadders beat = new WinderLadders();
        beat.hang(0, 0, 5);
        beat.hang(0, 1, -5);
        check.due("8: 2", BAD_VALUE, beat.change(2));
        check.due("8: -1", BAD_VALUE, beat.change(-1));
        beat.pass(1);
        check.due("8: spring", 2, beat.change(0));
        check.due("8: fast", OFF + 3605, beat.of(0, 4));
        check.due("8: fast too", OFF + 3595, beat.of(1, 4));
        check.due("8: autumn", 2, beat.change(1));
        check.due("8: autumn again", 2, beat.change(1));
        check.due("8: slow", OFF - 3595, beat.of(0, 4));
        check.due("8: no day passes", 1, beat.count(0));
        beat.pass(8);
        beat.round(1);
        check.due("8: one stands still", 1, beat.change(1));
        check.due("8: it is off as it was", OFF + 43200, beat.of(1, 4));
        check.due("8: the other is put off", OFF - 3600, beat.of(0, 4));
    }
}
