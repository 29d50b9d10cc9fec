import java.util.function.ToIntFunction;

/** The boundaries of promises 1 to 23: each argument's range, each error, and calls at what is empty or full. */
public final class PromisesEdgesTest {
    private static final int NO_SUCH = -1, BAD_VALUE = -2, BAD_TEXT = -3, TOO_MANY = -4, NOT_POSSIBLE = -5, NONE = -6;
    private static final int OFF = 1000000000;
    private static final Check check = new Check();

    public static void main(String[] args) {
        newObject();
        objectsByThemselves();
        set();
        hang();
        ladder();
        screwClock();
        screwTurns();
        screwBeyond();
        roundSet();
        roundOrder();
        passDays();
        passBound();
        passStill();
        change();
        of();
        ofLadder();
        count();
        countAtTheEnds();
        takes();
        lastsClock();
        lastsFromZero();
        lastsAtTheEnds();
        needs();
        needsOfLikeOnes();
        ladderFor();
        wayRound();
        wayRoundOfAll();
        undo();
        undoAfterSix();
        undoOfNothing();
        save();
        restore();
        refusedByNew();
        refusedByBusy();
        refusedByFull();
        check.end("PromisesEdgesTest");
    }

    private static void due(String call, long want, long got) {
        check.due(call, want, got);
    }

    private static int within(int value, int least, int most, int error, int answer) {
        return value >= least && value <= most ? answer : error;
    }

    private static WinderLadders busy() {
        WinderLadders beat = new WinderLadders();
        beat.save(1);
        Check.write(beat, "+3^0~50;+9^8~-7;+4^3~0;l4;l9;t5;b0,1,0");
        beat.carryOut();
        beat.save(0);
        Check.write(beat, "s;t9;b2;+1^1~-");
        for (int i = 1; i < 8; i++) {
            beat.pass(i);
        }
        beat.screw(0, 19 - beat.of(0, 3) + 20);
        return beat;
    }

    private static WinderLadders full() {
        WinderLadders beat = new WinderLadders();
        for (int i = 0; i < 16; i++) {
            beat.hang(99 - i, 30 - i, 99 - i);
        }
        for (int i = 0; i < 4; i++) {
            beat.ladder(27 + i);
        }
        for (int i = 0; i < 101; i++) {
            beat.pass(99);
        }
        beat.save(0);
        beat.round(65535);
        beat.screw(15, -20 - beat.of(15, 3) + 20);
        beat.save(1);
        for (int i = 0; i < 10; i++) {
            beat.put(Check.packed("s;a;s;a;"));
        }
        return beat;
    }

    private static void newObject() {
        WinderLadders beat = new WinderLadders();
        int[] counts = {0, 0, 0, 0, 0, 0, 0, 0, 60, 8, 5, 10, 0, 0};
        for (int what = 0; what < counts.length; what++) {
            due("1: count(" + what + ")", counts[what], beat.count(what));
        }
        for (int i = 0; i < 17; i++) {
            due("1: no clock", NO_SUCH, beat.of(i, 0));
            due("1: no clock lasts", NO_SUCH, beat.lasts(i));
            due("1: no clock has a screw", NO_SUCH, beat.screw(i, 0));
            due("1: no clock needs the winder", NO_SUCH, beat.needs(i));
            due("1: no ladder", NO_SUCH, beat.ofLadder(i));
            due("1: nowhere to go", NOT_POSSIBLE, beat.round(1 << i));
        }
        due("1: all clocks can be wound", NONE, beat.ladderFor());
        due("1: the fault of an empty pad", 0, beat.fault());
        due("1: nothing to carry out", BAD_TEXT, beat.carryOut());
        due("1: nothing to wipe", 0, beat.wipe());
        due("1: nothing to undo", NOT_POSSIBLE, beat.undo());
        due("1: slot 0", NOT_POSSIBLE, beat.restore(0));
        due("1: slot 1", NOT_POSSIBLE, beat.restore(1));
    }

    private static void objectsByThemselves() {
        WinderLadders one = full();
        String before = Check.all(one);
        WinderLadders other = new WinderLadders();
        other.set(0, 1);
        other.hang(1, 1, 1);
        other.save(0);
        due("1: the other's clocks", 1, other.count(1));
        due("1: the one is as it was", 1, before.equals(Check.all(one)) ? 1 : 0);
        due("1: its slots too", 16, one.restore(0));
    }

    private static void set() {
        WinderLadders beat = new WinderLadders();
        for (int setting : Check.around(0, 3)) {
            WinderLadders other = new WinderLadders();
            boolean there = setting >= 0 && setting <= 3;
            int first = there ? other.count(8 + setting) : BAD_VALUE;
            due("2: set(" + setting + ", 7)", first, other.set(setting, 7));
            due("2: again", there ? 7 : BAD_VALUE, other.set(setting, 8));
        }
        due("2: 30 is not the most of TOLD", 60, beat.set(WinderLadders.TOLD, 31));
        due("2: 31 is beyond WIND", BAD_VALUE, beat.set(WinderLadders.WIND, 31));
        due("2: 31 is beyond STEP", BAD_VALUE, beat.set(WinderLadders.STEP, 31));
        due("2: 31 is beyond WORK", BAD_VALUE, beat.set(WinderLadders.WORK, 31));
        due("2: the same value is a change", 31, beat.set(WinderLadders.TOLD, 31));
        due("2: two changes", 2, beat.count(13));
    }

    private static void hang() {
        WinderLadders beat = new WinderLadders();
        due("3: all least", 0, beat.hang(0, 0, -99));
        due("3: all most", 1, beat.hang(99, 30, 99));
        due("3: all wrong", BAD_VALUE, beat.hang(-1, -1, -100));
        due("3: two wrong", BAD_VALUE, beat.hang(100, 30, 100));
        for (int i = 2; i < 16; i++) {
            due("3: number " + i, i, beat.hang(i, i, i));
        }
        due("3: full", TOO_MANY, beat.hang(0, 0, 0));
        due("3: full, wrong house", BAD_VALUE, beat.hang(100, 0, 0));
        due("3: full, wrong rungs", BAD_VALUE, beat.hang(0, 31, 0));
        due("3: full, wrong drift", BAD_VALUE, beat.hang(0, 0, -100));
        due("3: days since of a new one", 0, beat.of(15, 5));
    }

    private static void ladder() {
        WinderLadders beat = new WinderLadders();
        due("4: least", 0, beat.ladder(1));
        due("4: most", 1, beat.ladder(30));
        due("4: none", BAD_VALUE, beat.ladder(0));
        due("4: 31", BAD_VALUE, beat.ladder(31));
        beat.ladder(2);
        beat.ladder(2);
        due("4: full", TOO_MANY, beat.ladder(1));
        due("4: full, wrong", BAD_VALUE, beat.ladder(0));
        beat.undo();
        due("4: room again", 3, beat.ladder(9));
    }

    private static void screwClock() {
        for (int clock : Check.around(0, 2)) {
            WinderLadders beat = busy();
            due("5: screw(" + clock + ", 0)", clock >= 0 && clock <= 2 ? beat.of(clock, 3) : NO_SUCH, beat.screw(clock, 0));
        }
        due("5: the last of 16", 0, full().screw(15, 0));
        due("5: no 17th", NO_SUCH, full().screw(16, 0));
    }

    private static void screwTurns() {
        for (int turns : Check.around(-20, 20)) {
            WinderLadders beat = new WinderLadders();
            beat.hang(0, 0, 0);
            due("5: screw(0, " + turns + ")", within(turns, -20, 20, BAD_VALUE, turns + 20), beat.screw(0, turns));
            due("5: screw then", within(turns, -20, 20, 20, turns + 20), beat.of(0, 3));
            due("5: changes", within(turns, -20, 20, 1, 2), beat.count(13));
        }
    }

    private static void screwBeyond() {
        for (int first = -20; first <= 20; first++) {
            for (int turns = -20; turns <= 20; turns++) {
                WinderLadders beat = new WinderLadders();
                beat.hang(0, 0, 0);
                beat.screw(0, first);
                int then = first + turns;
                due("5: " + first + " and " + turns, within(then, -20, 20, NOT_POSSIBLE, then + 20), beat.screw(0, turns));
                due("5: of(0, 3)", within(then, -20, 20, first, then) + 20, beat.of(0, 3));
            }
        }
    }

    private static void roundSet() {
        for (int clocks : Check.around(0, 7)) {
            WinderLadders beat = busy();
            int times = beat.count(7);
            int want = clocks < 0 ? BAD_VALUE : (clocks & 7) == 0 ? NOT_POSSIBLE : beat.takes(clocks & 7);
            due("6: round(" + clocks + ")", want, beat.round(clocks));
            due("6: wound by it", want < 0 ? 0 : Integer.bitCount(clocks & 7), beat.count(7) - times);
        }
        due("6: all of 16", 1, full().round(65535) > 0 ? 1 : 0);
        due("6: beyond 16", NOT_POSSIBLE, full().round(Integer.MAX_VALUE ^ 65535));
        due("6: a beat in the house 0", 10, withClockAtHome(0).round(1));
        due("6: and without work", 0, withClockAtHome(1).round(1));
    }

    private static WinderLadders withClockAtHome(int rungs) {
        WinderLadders beat = new WinderLadders();
        beat.hang(0, rungs, 0);
        return beat;
    }

    private static void roundOrder() {
        WinderLadders beat = new WinderLadders();
        beat.hang(10, 0, 0);
        beat.hang(90, 0, 0);
        beat.hang(20, 0, 0);
        due("6: by numbers, not by houses", (10 + 80 + 70 + 20) * 5 + 30, beat.round(7));
        due("6: minutes of all", 180 * 5 + 30, beat.count(6));
    }

    private static void passDays() {
        for (int days : Check.around(1, 99)) {
            WinderLadders beat = new WinderLadders();
            beat.hang(0, 0, 0);
            due("7: pass(" + days + ")", within(days, 1, 99, BAD_VALUE, days > 8 ? 1 : 0), beat.pass(days));
            due("7: days so far", within(days, 1, 99, 0, days), beat.count(0));
            due("7: days of the clock", within(days, 1, 99, 0, days), beat.of(0, 5));
        }
    }

    private static void passBound() {
        WinderLadders beat = new WinderLadders();
        for (int i = 0; i < 100; i++) {
            beat.pass(99);
        }
        due("7: 9900", 9900, beat.count(0));
        due("7: to 9999", 0, beat.pass(99));
        due("7: 9999", 9999, beat.count(0));
        due("7: 10000", NOT_POSSIBLE, beat.pass(1));
        due("7: 10098", NOT_POSSIBLE, beat.pass(99));
        due("7: bad days ahead of that", BAD_VALUE, beat.pass(100));
        due("7: nor 0", BAD_VALUE, beat.pass(0));
        beat.undo();
        due("7: to 9998", 0, beat.pass(98));
        due("7: by two", NOT_POSSIBLE, beat.pass(2));
        due("7: by one", 0, beat.pass(1));
        Check.write(beat, "t1");
        due("7: of a text", 0, beat.carryOut());
        due("7: days stay", 9999, beat.count(0));
    }

    private static void passStill() {
        due("7: no clocks", 0, new WinderLadders().pass(99));
        WinderLadders beat = new WinderLadders();
        for (int i = 0; i < 16; i++) {
            beat.hang(0, 0, 0);
        }
        due("7: none", 0, beat.pass(8));
        beat.round(1 | 1 << 15);
        due("7: all but two", 14, beat.pass(1));
        due("7: then as well", 14, beat.pass(7));
        due("7: all 16", 16, beat.pass(1));
    }

    private static void change() {
        for (int autumn : Check.around(0, 1)) {
            WinderLadders beat = new WinderLadders();
            beat.hang(0, 0, 0);
            due("8: change(" + autumn + ")", within(autumn, 0, 1, BAD_VALUE, 1), beat.change(autumn));
            due("8: off", OFF + within(autumn, 0, 1, 0, 3600 - 7200 * autumn), beat.of(0, 4));
            due("8: changes", within(autumn, 0, 1, 1, 2), beat.count(13));
        }
        due("8: no clocks", 0, new WinderLadders().change(1));
        WinderLadders beat = full();
        due("8: all 16", 16, beat.change(0));
        beat.restore(0);
        due("8: none", 0, beat.change(0));
    }

    private static void of() {
        for (int what : Check.around(0, 10)) {
            WinderLadders beat = new WinderLadders();
            beat.hang(99, 30, 99);
            int[] told = {99, 30, 199, 20, OFF, 0, 1, 1, NONE, 0, 0};
            due("9: of(0, " + what + ")", what < 0 || what > 10 ? BAD_VALUE : told[what], beat.of(0, what));
            due("9: of(1, " + what + ")", NO_SUCH, beat.of(1, what));
        }
        WinderLadders full = full();
        for (int clock : Check.around(0, 15)) {
            due("9: of(" + clock + ", 0)", within(clock, 0, 15, NO_SUCH, 99 - clock), full.of(clock, 0));
        }
        WinderLadders least = new WinderLadders();
        least.hang(0, 0, -99);
        least.screw(0, -20);
        due("9: least drift", 1, least.of(0, 2));
        due("9: least screw", 0, least.of(0, 3));
        least.screw(0, 20);
        least.screw(0, 20);
        due("9: most screw", 40, least.of(0, 3));
    }

    private static void ofLadder() {
        WinderLadders beat = new WinderLadders();
        for (int i = 0; i < 4; i++) {
            beat.ladder(30 - i);
        }
        for (int ladder : Check.around(0, 3)) {
            due("10: ofLadder(" + ladder + ")", within(ladder, 0, 3, NO_SUCH, 30 - ladder), beat.ofLadder(ladder));
        }
        beat.undo();
        due("10: it is undone", NO_SUCH, beat.ofLadder(3));
        due("10: the last one", 28, beat.ofLadder(2));
    }

    private static void count() {
        WinderLadders beat = busy();
        for (int what : Check.around(0, 13)) {
            boolean there = what >= 0 && what <= 13;
            due("11: count(" + what + ")", there ? 1 : BAD_VALUE, there ? beat.count(what) >= 0 ? 1 : 0 : beat.count(what));
        }
        due("11: asking is no change", 6, beat.count(13));
    }

    private static void countAtTheEnds() {
        WinderLadders beat = full();
        beat.restore(0);
        int[] due = {9999, 16, 4, 65535, 16, 0, 0, 0, 60, 8, 5, 10, 80, 6};
        for (int what = 0; what < due.length; what++) {
            due("11: full, count(" + what + ")", due[what], beat.count(what));
        }
        due("11: cannot be wound, none", 0, beat.count(5));
        WinderLadders high = new WinderLadders();
        for (int i = 0; i < 16; i++) {
            high.hang(0, 30, 0);
        }
        high.ladder(29);
        due("11: cannot be wound, all", 16, high.count(5));
        high.ladder(30);
        due("11: can be, all", 0, high.count(5));
    }

    private static void takes() {
        for (int clocks : Check.around(0, 7)) {
            WinderLadders beat = busy();
            int changes = beat.count(13);
            int took = beat.takes(clocks);
            due("12: changes by takes(" + clocks + ")", changes, beat.count(13));
            due("12: takes(" + clocks + ")", beat.round(clocks), took);
        }
    }

    private static void lastsClock() {
        WinderLadders beat = busy();
        for (int clock : Check.around(0, 2)) {
            due("13: lasts(" + clock + ")", within(clock, 0, 2, NO_SUCH, 0), beat.lasts(clock));
        }
        due("13: the last of 16", 1, full().lasts(15) > 0 ? 1 : 0);
        due("13: no 17th", NO_SUCH, full().lasts(16));
    }

    /** "(0 if it is)": more than TOLD, not as much. */
    private static void lastsFromZero() {
        WinderLadders beat = new WinderLadders();
        beat.hang(0, 0, 60);
        beat.hang(0, 0, -60);
        beat.hang(0, 0, 61);
        beat.hang(0, 0, -61);
        due("13: 60 in one day, 120 in two", 2, beat.lasts(0));
        due("13: and slow", 2, beat.lasts(1));
        due("13: 61 in one day", 1, beat.lasts(2));
        due("13: and slow", 1, beat.lasts(3));
        beat.pass(1);
        due("13: off by 60", 1, beat.lasts(0));
        due("13: slow by 60", 1, beat.lasts(1));
        due("13: off by 61", 0, beat.lasts(2));
        due("13: slow by 61", 0, beat.lasts(3));
    }

    private static void lastsAtTheEnds() {
        for (int wind = 1; wind <= 30; wind++) {
            WinderLadders beat = new WinderLadders();
            beat.set(1, wind);
            beat.set(0, 999);
            beat.hang(0, 0, 0);
            for (int day = 0; day <= wind; day++) {
                due("13: still after " + wind + ", day " + day, wind + 1 - day, beat.lasts(0));
                beat.pass(1);
            }
            due("13: it stands still", 0, beat.lasts(0));
        }
        WinderLadders turned = new WinderLadders();
        turned.hang(0, 0, 50);
        turned.change(1);
        turned.set(0, 999);
        due("13: slow by 3600", 0, turned.lasts(0));
        turned.change(0);
        turned.screw(0, -20);
        due("13: -10 a day, till it stands still", 9, turned.lasts(0));
        turned.set(0, 20);
        due("13: -30 on the third day", 3, turned.lasts(0));
        turned.pass(5);
        turned.screw(0, 20);
        turned.screw(0, 10);
        due("13: it is, and would not be tomorrow", 0, turned.lasts(0));
    }

    private static void needs() {
        WinderLadders beat = busy();
        for (int rank : Check.around(0, 2)) {
            due("14: needs(" + rank + ")", within(rank, 0, 2, NO_SUCH, rank), beat.needs(rank));
        }
        WinderLadders full = full();
        int seen = 0;
        for (int rank = 0; rank < 16; rank++) {
            seen |= 1 << full.needs(rank);
        }
        due("14: each of 16", 65535, seen);
        due("14: no rank 16", NO_SUCH, full.needs(16));
    }

    private static void needsOfLikeOnes() {
        WinderLadders beat = new WinderLadders();
        int[] drifts = {7, 20, -20, 8, 61, -61, 7, 0, 99, 20, 30, -30, 0, 60, 61, 1};
        int[] order = {4, 5, 8, 14, 13, 10, 11, 1, 2, 9, 3, 0, 6, 7, 12, 15};
        for (int drift : drifts) {
            beat.hang(0, 0, drift);
        }
        for (int rank = 0; rank < 16; rank++) {
            due("14: rank " + rank, order[rank], beat.needs(rank));
        }
        due("14: asking is no change", 6, beat.count(13));
        beat.pass(9);
        for (int rank = 0; rank < 16; rank++) {
            due("14: all are like, rank " + rank, rank, beat.needs(rank));
        }
    }

    private static void ladderFor() {
        for (int rungs = 0; rungs <= 30; rungs++) {
            WinderLadders beat = new WinderLadders();
            beat.hang(0, rungs, 0);
            due("15: for " + rungs, rungs == 0 ? NONE : rungs, beat.ladderFor());
            if (rungs > 1) {
                beat.ladder(rungs - 1);
                due("15: one rung less does not do for " + rungs, rungs, beat.ladderFor());
            }
            beat.ladder(Math.max(1, rungs));
            due("15: with one of " + rungs, NONE, beat.ladderFor());
        }
        WinderLadders beat = new WinderLadders();
        beat.hang(0, 30, 0);
        beat.ladder(1);
        beat.ladder(2);
        beat.ladder(3);
        due("15: three ladders, and they cannot", 30, beat.ladderFor());
        beat.ladder(30);
        due("15: four ladders, and they can", TOO_MANY, beat.ladderFor());
        beat.undo();
        beat.ladder(4);
        due("15: four ladders, and they cannot", TOO_MANY, beat.ladderFor());
    }

    private static void wayRound() {
        for (int clocks : Check.around(0, 7)) {
            WinderLadders beat = busy();
            int answer = beat.wayRound(clocks);
            due("16: changes by wayRound(" + clocks + ")", 6, beat.count(13));
            due("16: wayRound(" + clocks + ")", Math.min(0, beat.takes(clocks)), Math.min(0, answer));
        }
        WinderLadders beat = new WinderLadders();
        beat.hang(8, 5, 0);
        beat.hang(7, 5, 0);
        beat.ladder(5);
        due("16: one minute less the other way round", 1, beat.wayRound(3));
        beat.set(2, 1);
        due("16: by one number", 1, beat.wayRound(3));
        beat.hang(8, 5, 0);
        due("16: as many", 2, beat.wayRound(5));
        due("16: fewer in the order of the numbers", 0, beat.wayRound(6));
        due("16: one clock alone", 2, beat.wayRound(4));
        due("16: nothing in the house 0", 2, withClockAtHome(1).wayRound(1));
    }

    /** Sets of 1 to 16 clocks, held against the minutes of two beats of a text. */
    private static void wayRoundOfAll() {
        for (int clocks = 1; clocks <= 16; clocks++) {
            for (int kind = 1; kind <= 12; kind++) {
                WinderLadders beat = new WinderLadders();
                beat.ladder(5);
                beat.ladder(9);
                String there = "";
                String back = "";
                for (int i = 0; i < clocks; i++) {
                    beat.hang((i * i * kind + 37 * i) % 100, (i * kind + i * i / 3) % 4 * 4, 0);
                    there = there + "," + i;
                    back = "," + i + back;
                }
                int forwards = minutesOf(beat, "b" + there.substring(1));
                int backwards = minutesOf(beat, "b" + back.substring(1));
                due("12: takes of " + clocks + ", " + kind, forwards, beat.takes((1 << clocks) - 1));
                int want = forwards < backwards ? 0 : forwards > backwards ? 1 : 2;
                due("16: wayRound of " + clocks + ", " + kind, want, beat.wayRound((1 << clocks) - 1));
            }
        }
    }

    private static int minutesOf(WinderLadders beat, String order) {
        int before = beat.count(6);
        Check.write(beat, order);
        due("20: " + order, 1, beat.carryOut());
        return beat.count(6) - before;
    }

    private static void undo() {
        WinderLadders beat = new WinderLadders();
        due("21: none", NOT_POSSIBLE, beat.undo());
        beat.pass(1);
        due("21: the only one", 0, beat.undo());
        due("21: none again", NOT_POSSIBLE, beat.undo());
        due("21: none is kept of an undo", 0, beat.count(13));
        for (int i = 1; i <= 6; i++) {
            beat.pass(1);
            due("21: kept", i, beat.count(13));
        }
        for (int i = 5; i >= 0; i--) {
            due("21: left", i, beat.undo());
            due("21: days", i, beat.count(0));
        }
        due("21: all are undone", NOT_POSSIBLE, beat.undo());
    }

    /** "when one more is recorded, the oldest one is dropped": for the seventh one and all behind it. */
    private static void undoAfterSix() {
        for (int changes = 6; changes < 30; changes++) {
            WinderLadders beat = new WinderLadders();
            for (int i = 0; i < changes; i++) {
                beat.pass(1);
            }
            due("21: six", 6, beat.count(13));
            beat.undo();
            beat.undo();
            beat.pass(50);
            due("21: five", 5, beat.count(13));
            for (int i = 4; i >= 0; i--) {
                due("21: left", i, beat.undo());
                due("21: days", changes - 6 + i, beat.count(0));
            }
            due("21: no seventh", NOT_POSSIBLE, beat.undo());
        }
    }

    /** "(also if nothing is different then)" */
    private static void undoOfNothing() {
        WinderLadders beat = new WinderLadders();
        beat.hang(0, 0, 0);
        beat.pass(9);
        beat.save(0);
        String before = Check.all(beat);
        beat.set(3, 10);
        beat.screw(0, 0);
        beat.change(0);
        Check.write(beat, "l0");
        due("21: nothing is carried out", 0, beat.carryOut());
        due("21: four that changed nothing", 6, beat.count(13));
        beat.restore(0);
        due("21: the fifth", 6, beat.count(13));
        due("21: all is as it was", 1, before.equals(Check.all(beat)) ? 1 : 0);
        for (int i = 5; i >= 1; i--) {
            due("21: undo", i, beat.undo());
            due("21: and still is", 1, before.equals(Check.all(beat)) ? 1 : 0);
        }
        due("21: the days are undone", 0, beat.undo());
        due("21: no days", 0, beat.count(0));
        due("21: the clock stays", 1, beat.count(1));
    }

    private static void save() {
        for (int slot : Check.around(0, 1)) {
            WinderLadders beat = new WinderLadders();
            due("22: none in " + slot, within(slot, 0, 1, BAD_VALUE, 0), beat.save(slot));
            beat.hang(0, 0, 0);
            due("22: one in " + slot, within(slot, 0, 1, BAD_VALUE, 1), beat.save(slot));
            due("22: is no change", 1, beat.count(13));
            due("22: the other stays empty", NOT_POSSIBLE, beat.restore(slot == 0 ? 1 : 0));
        }
        due("22: 16 clocks", 16, full().save(0));
        WinderLadders beat = full();
        String before = Check.all(beat);
        beat.save(0);
        due("22: nothing is changed", 1, before.equals(Check.all(beat)) ? 1 : 0);
        due("22: the pad stays", 80, beat.count(12));
    }

    private static void restore() {
        for (int slot : Check.around(0, 1)) {
            due("23: nothing saved in " + slot, within(slot, 0, 1, BAD_VALUE, NOT_POSSIBLE), new WinderLadders().restore(slot));
            due("23: restore(" + slot + ")", within(slot, 0, 1, BAD_VALUE, slot == 0 ? 3 : 0), busy().restore(slot));
        }
        WinderLadders beat = full();
        String before = Check.all(beat);
        beat.save(0);
        for (int i = 0; i < 8; i++) {
            beat.undo();
            beat.set(0, 1 + i);
            due("23: 16 clocks", 16, beat.restore(0));
            due("23: all is as it was", 1, before.equals(Check.all(beat)) ? 1 : 0);
        }
        beat.undo();
        due("23: undone, and kept by the slot", 16, beat.restore(0));
        due("23: all is as it was again", 1, before.equals(Check.all(beat)) ? 1 : 0);
    }

    /** "A call that returns an error changes nothing.": also not the history, the slots and the text of the pad. */
    private static void refused(String call, WinderLadders beat, WinderLadders like, int error, ToIntFunction<WinderLadders> made) {
        due(call, error, made.applyAsInt(beat));
        due(call + " again", error, made.applyAsInt(beat));
        String want = Check.deep(like);
        String got = Check.deep(beat);
        due(call + " changes nothing: " + want + " / " + got, 1, want.equals(got) ? 1 : 0);
    }

    private static void refusedNew(String call, int error, ToIntFunction<WinderLadders> made) {
        refused("new: " + call, new WinderLadders(), new WinderLadders(), error, made);
    }

    private static void refusedByNew() {
        refusedNew("set", BAD_VALUE, beat -> beat.set(4, 1));
        refusedNew("hang", BAD_VALUE, beat -> beat.hang(0, 0, 100));
        refusedNew("ladder", BAD_VALUE, beat -> beat.ladder(0));
        refusedNew("screw", NO_SUCH, beat -> beat.screw(0, 1));
        refusedNew("round below 0", BAD_VALUE, beat -> beat.round(-1));
        refusedNew("round", NOT_POSSIBLE, beat -> beat.round(1));
        refusedNew("pass", BAD_VALUE, beat -> beat.pass(0));
        refusedNew("change", BAD_VALUE, beat -> beat.change(2));
        refusedNew("of", NO_SUCH, beat -> beat.of(0, 0));
        refusedNew("ofLadder", NO_SUCH, beat -> beat.ofLadder(0));
        refusedNew("count", BAD_VALUE, beat -> beat.count(14));
        refusedNew("takes", NOT_POSSIBLE, beat -> beat.takes(1));
        refusedNew("lasts", NO_SUCH, beat -> beat.lasts(0));
        refusedNew("needs", NO_SUCH, beat -> beat.needs(0));
        refusedNew("wayRound", NOT_POSSIBLE, beat -> beat.wayRound(1));
        refusedNew("put", BAD_VALUE, beat -> beat.put(0));
        refusedNew("carryOut", BAD_TEXT, beat -> beat.carryOut());
        refusedNew("undo", NOT_POSSIBLE, beat -> beat.undo());
        refusedNew("save", BAD_VALUE, beat -> beat.save(2));
        refusedNew("restore", NOT_POSSIBLE, beat -> beat.restore(0));
    }

    private static void refusedBusy(String call, int error, ToIntFunction<WinderLadders> made) {
        WinderLadders beat = busy();
        beat.wipe();
        Check.write(beat, "t1;l2;x");
        due(call + " with a fault", error, made.applyAsInt(beat));
        due(call + " with a fault, the pad", 7, beat.count(12));
        due(call + " with a fault, the fault", 6, beat.fault());
        refused("busy: " + call, busy(), busy(), error, made);
    }

    private static void refusedByBusy() {
        refusedBusy("set below", BAD_VALUE, beat -> beat.set(0, 0));
        refusedBusy("set beyond", BAD_VALUE, beat -> beat.set(3, 31));
        refusedBusy("hang house", BAD_VALUE, beat -> beat.hang(-1, 0, 0));
        refusedBusy("hang rungs", BAD_VALUE, beat -> beat.hang(0, 31, 0));
        refusedBusy("ladder", BAD_VALUE, beat -> beat.ladder(31));
        refusedBusy("screw none", NO_SUCH, beat -> beat.screw(3, 1));
        refusedBusy("screw turns", BAD_VALUE, beat -> beat.screw(0, -21));
        refusedBusy("screw beyond", NOT_POSSIBLE, beat -> beat.screw(0, 2));
        refusedBusy("round below 0", BAD_VALUE, beat -> beat.round(-8));
        refusedBusy("round", NOT_POSSIBLE, beat -> beat.round(8));
        refusedBusy("round empty", NOT_POSSIBLE, beat -> beat.round(0));
        refusedBusy("pass", BAD_VALUE, beat -> beat.pass(100));
        refusedBusy("change", BAD_VALUE, beat -> beat.change(-1));
        refusedBusy("put a code", BAD_VALUE, beat -> beat.put('s' << 8 | 127));
        refusedBusy("put a gap", BAD_VALUE, beat -> beat.put('s' << 16 | 's'));
        refusedBusy("carryOut", BAD_TEXT, beat -> beat.carryOut());
        refusedBusy("save", BAD_VALUE, beat -> beat.save(-1));
        refusedBusy("restore", BAD_VALUE, beat -> beat.restore(2));
    }

    private static void refusedFull(String call, int error, ToIntFunction<WinderLadders> made) {
        refused("full: " + call, full(), full(), error, made);
    }

    private static void refusedByFull() {
        refusedFull("hang", TOO_MANY, beat -> beat.hang(0, 0, 0));
        refusedFull("ladder", TOO_MANY, beat -> beat.ladder(1));
        refusedFull("screw", NOT_POSSIBLE, beat -> beat.screw(15, -1));
        refusedFull("round", NOT_POSSIBLE, beat -> beat.round(1 << 16));
        refusedFull("pass", NOT_POSSIBLE, beat -> beat.pass(1));
        refusedFull("ladderFor", TOO_MANY, beat -> beat.ladderFor());
        refusedFull("put", TOO_MANY, beat -> beat.put('s'));
        refusedFull("put eight", TOO_MANY, beat -> beat.put(Check.packed("s;s;s;s;")));
        refusedFull("carryOut", BAD_TEXT, beat -> beat.carryOut());
    }
}
