/** Promises 9 to 16: what there is, and what if. */
public final class AnswersTest {
    private static final int NO_SUCH = -1, BAD_VALUE = -2, TOO_MANY = -4, NOT_POSSIBLE = -5, NONE = -6;
    private static final int OFF = 1000000000;
    private static final Check check = new Check();

    public static void main(String[] args) {
        of();
        ofTold();
        ofLadders();
        ofLadder();
        count();
        countHigh();
        takes();
        lasts();
        lastsStill();
        needs();
        ladderFor();
        wayRound();
        changesNothing();
        check.end("AnswersTest");
    }

    private static void of() {
        WinderLadders beat = new WinderLadders();
        beat.hang(42, 17, -61);
        beat.hang(0, 0, 12);
        beat.ladder(20);
        beat.round(1);
        beat.round(1);
        beat.screw(0, 13);
        beat.pass(4);
        int[] due = {42, 17, 39, 33, OFF - 88, 4, 1, 0, 0, 1, 2};
        for (int what = 0; what < due.length; what++) {
            check.due("9: of(0, " + what + ")", due[what], beat.of(0, what));
        }
        check.due("9: what 11", BAD_VALUE, beat.of(0, 11));
        check.due("9: what -1", BAD_VALUE, beat.of(0, -1));
        check.due("9: no clock 2", NO_SUCH, beat.of(2, 0));
        check.due("9: no clock -1, what 11", NO_SUCH, beat.of(-1, 11));
        check.due("9: no clock most", NO_SUCH, beat.of(Integer.MAX_VALUE, 0));
        beat.pass(5);
        check.due("9: stands still", 0, beat.of(0, 6));
        check.due("9: days", 9, beat.of(0, 5));
    }

    private static void ofTold() {
        WinderLadders beat = new WinderLadders();
        beat.hang(0, 0, 30);
        beat.hang(0, 0, -30);
        beat.pass(2);
        check.due("9: off by 60", 1, beat.of(0, 7));
        check.due("9: off by -60", 1, beat.of(1, 7));
        beat.set(0, 59);
        check.due("9: 60 is more than 59", 0, beat.of(0, 7));
        check.due("9: -60 is more than 59", 0, beat.of(1, 7));
    }

    private static void ofLadders() {
        WinderLadders beat = new WinderLadders();
        beat.hang(0, 0, 0);
        beat.hang(0, 10, 0);
        beat.hang(0, 11, 0);
        check.due("9: none needed", NONE, beat.of(0, 8));
        check.due("9: none there is", NONE, beat.of(1, 8));
        check.due("9: 0 rungs can be wound", 1, beat.of(0, 9));
        check.due("9: 10 rungs cannot", 0, beat.of(1, 9));
        beat.ladder(30);
        beat.ladder(10);
        beat.ladder(10);
        beat.ladder(9);
        check.due("9: the shortest that is enough, the lowest of like ones", 1, beat.of(1, 8));
        check.due("9: a longer one", 0, beat.of(2, 8));
        check.due("9: still none needed", NONE, beat.of(0, 8));
        check.due("9: can be wound", 1, beat.of(2, 9));
    }

    private static void ofLadder() {
        WinderLadders beat = new WinderLadders();
        check.due("10: none", NO_SUCH, beat.ofLadder(0));
        beat.ladder(30);
        beat.ladder(1);
        check.due("10: first", 30, beat.ofLadder(0));
        check.due("10: second", 1, beat.ofLadder(1));
        check.due("10: third", NO_SUCH, beat.ofLadder(2));
        check.due("10: below 0", NO_SUCH, beat.ofLadder(-1));
        check.due("10: least", NO_SUCH, beat.ofLadder(Integer.MIN_VALUE));
        check.due("10: most", NO_SUCH, beat.ofLadder(Integer.MAX_VALUE));
    }

    private static void count() {
        WinderLadders beat = new WinderLadders();
        beat.hang(1, 0, 61);
        beat.hang(2, 3, 1);
        beat.hang(3, 4, 0);
        beat.ladder(3);
        beat.pass(8);
        beat.round(2);
        beat.round(6);
        beat.pass(1);
        beat.round(2);
        Check.write(beat, "s;");
        int[] due = {9, 3, 1, 5, 2, 1, 40 + 10 + 60 + 40, 3, 60, 8, 5, 10, 2, 6};
        due[6] = (4 + 4) * 5 + 10 + (6 + 4) * 5 + 10 + (4 + 4) * 5 + 10;
        for (int what = 0; what < due.length; what++) {
            check.due("11: count(" + what + ")", due[what], beat.count(what));
        }
        check.due("11: what 14", BAD_VALUE, beat.count(14));
        check.due("11: what -1", BAD_VALUE, beat.count(-1));
        check.due("11: what least", BAD_VALUE, beat.count(Integer.MIN_VALUE));
        beat.round(1);
        beat.pass(1);
        check.due("11: the set when one goes", 4, beat.count(3));
        check.due("11: off by more, none of them still", 2, beat.count(4));
        beat.undo();
        beat.undo();
        check.due("11: changes", 4, beat.count(13));
    }

    private static void countHigh() {
        WinderLadders beat = new WinderLadders();
        beat.hang(0, 30, 99);
        beat.hang(0, 0, 0);
        beat.hang(0, 29, 99);
        check.due("11: cannot be wound", 2, beat.count(5));
        check.due("15: the first clock is the highest", 30, beat.ladderFor());
        beat.pass(1);
        check.due("11: off by more than told", 2, beat.count(4));
        beat.undo();
        beat.undo();
        check.due("11: not one that is no more", 1, beat.count(5));
        beat.undo();
        beat.undo();
        check.due("11: none of those that are no more", 0, beat.count(4) + beat.count(5) + beat.count(7));
        check.due("15: none of those that are no more", NONE, beat.ladderFor());
    }

    private static void takes() {
        WinderLadders beat = new WinderLadders();
        check.due("12: none", NOT_POSSIBLE, beat.takes(1));
        check.due("12: below 0", BAD_VALUE, beat.takes(-1));
        beat.hang(9, 2, 99);
        beat.hang(5, 2, 99);
        beat.ladder(2);
        check.due("12: both", (9 + 18 + 4 + 5) * 5 + 20, beat.takes(3));
        check.due("12: one", (5 + 10 + 5) * 5 + 10, beat.takes(2));
        check.due("12: others do not matter", (5 + 10 + 5) * 5 + 10, beat.takes(Integer.MAX_VALUE - 1));
        check.due("12: none of the set", NOT_POSSIBLE, beat.takes(4));
        check.due("12: no minutes", 0, beat.count(6));
        check.due("12: nothing is wound", 0, beat.count(7));
        check.due("12: round takes as long", beat.takes(3), beat.round(3));
    }

    private static void lasts() {
        WinderLadders beat = new WinderLadders();
        check.due("13: none", NO_SUCH, beat.lasts(0));
        beat.hang(0, 0, 20);
        beat.hang(0, 0, -61);
        beat.hang(0, 0, 0);
        check.due("13: below 0", NO_SUCH, beat.lasts(-1));
        check.due("13: no clock 3", NO_SUCH, beat.lasts(3));
        check.due("13: 60 after three days, 80 after four", 4, beat.lasts(0));
        check.due("13: the first day", 1, beat.lasts(1));
        check.due("13: till it stands still", 9, beat.lasts(2));
        beat.screw(0, -6);
        check.due("13: drift 2 with the screw", 9, beat.lasts(0));
        beat.screw(0, -6);
        check.due("13: drift -16 with the screw", 4, beat.lasts(0));
        beat.pass(3);
        check.due("13: off by -48", 1, beat.lasts(0));
        check.due("13: it is", 0, beat.lasts(1));
        check.due("13: three days less", 6, beat.lasts(2));
        beat.change(0);
        check.due("13: by the change", 0, beat.lasts(2));
    }

    private static void lastsStill() {
        WinderLadders beat = new WinderLadders();
        beat.set(1, 30);
        beat.set(0, 999);
        beat.hang(0, 0, 33);
        beat.hang(0, 0, 34);
        check.due("13: 990 after 30 days", 31, beat.lasts(0));
        check.due("13: 1020 after 30 days", 30, beat.lasts(1));
        beat.pass(10);
        beat.set(1, 5);
        check.due("13: wound for less days than went by", 1, beat.lasts(0));
        beat.set(1, 10);
        check.due("13: its last day", 1, beat.lasts(0));
        beat.set(1, 11);
        check.due("13: two days more", 2, beat.lasts(0));
        for (int i = 0; i < 101; i++) {
            beat.pass(i < 100 ? 99 : 89);
        }
        check.due("13: days are over", 9999, beat.count(0));
        check.due("13: stands still", 0, beat.lasts(0));
        beat.round(1);
        check.due("13: the bound of days does not matter", 12, beat.lasts(0));
    }

    private static void needs() {
        WinderLadders beat = new WinderLadders();
        check.due("14: none", NO_SUCH, beat.needs(0));
        beat.hang(0, 0, 0);
        beat.hang(0, 0, 20);
        beat.hang(0, 0, -99);
        beat.hang(0, 0, -20);
        beat.hang(0, 30, 1);
        int[] order = {2, 1, 3, 0, 4};
        for (int rank = 0; rank < order.length; rank++) {
            check.due("14: rank " + rank, order[rank], beat.needs(rank));
        }
        check.due("14: not so many", NO_SUCH, beat.needs(5));
        check.due("14: below 0", NO_SUCH, beat.needs(-1));
        check.due("14: least", NO_SUCH, beat.needs(Integer.MIN_VALUE));
        beat.pass(3);
        beat.round(1 << 2 | 1 << 1);
        beat.change(0);
        beat.round(1 << 3 | 1);
        int[] later = {1, 2, 4, 3, 0};
        for (int rank = 0; rank < later.length; rank++) {
            check.due("14: later rank " + rank, later[rank], beat.needs(rank));
        }
    }

    private static void ladderFor() {
        WinderLadders beat = new WinderLadders();
        check.due("15: no clocks", NONE, beat.ladderFor());
        beat.hang(0, 0, 0);
        check.due("15: no rungs", NONE, beat.ladderFor());
        beat.hang(0, 7, 0);
        beat.hang(0, 30, 0);
        beat.hang(0, 12, 0);
        check.due("15: all of them", 30, beat.ladderFor());
        beat.undo();
        beat.undo();
        beat.hang(0, 12, 0);
        check.due("15: the highest", 12, beat.ladderFor());
        beat.ladder(11);
        check.due("15: a shorter one does not do", 12, beat.ladderFor());
        beat.ladder(12);
        check.due("15: they can", NONE, beat.ladderFor());
        beat.hang(0, 1, 0);
        check.due("15: they still can", NONE, beat.ladderFor());
        beat.hang(0, 13, 0);
        check.due("15: they cannot", 13, beat.ladderFor());
        beat.ladder(1);
        beat.ladder(2);
        check.due("15: four ladders", TOO_MANY, beat.ladderFor());
        beat.undo();
        beat.ladder(30);
        check.due("15: four ladders, and they can", TOO_MANY, beat.ladderFor());
    }

    private static void wayRound() {
        WinderLadders beat = new WinderLadders();
        check.due("16: none", NOT_POSSIBLE, beat.wayRound(1));
        check.due("16: below 0", BAD_VALUE, beat.wayRound(-1));
        beat.hang(2, 5, 0);
        beat.hang(8, 5, 0);
        beat.hang(4, 5, 0);
        beat.ladder(5);
        check.due("16: fetched to 2 or to 8", 0, beat.wayRound(3));
        check.due("16: fetched to 8 or to 4", 1, beat.wayRound(6));
        check.due("16: fetched to 2 or to 4", 0, beat.wayRound(7));
        check.due("16: one clock", 2, beat.wayRound(2));
        check.due("16: none of the set", NOT_POSSIBLE, beat.wayRound(8));
        check.due("16: empty", NOT_POSSIBLE, beat.wayRound(0));
        beat.hang(9, 6, 0);
        check.due("16: one that cannot be wound", 2, beat.wayRound(9));
        check.due("16: nothing is wound", 0, beat.count(7));
        wayRoundOfMany();
    }

    /** In the order of the numbers the ladder of 3 rungs is fetched to 6 and 2, the other way round to 5 and 1. */
    private static void wayRoundOfMany() {
        WinderLadders beat = new WinderLadders();
        beat.ladder(3);
        beat.ladder(7);
        beat.hang(6, 3, 0);
        beat.hang(1, 3, 0);
        beat.hang(4, 7, 0);
        beat.hang(2, 3, 0);
        beat.hang(5, 3, 0);
        check.due("16: fetched to 6, 4 and 2", (6 + 12 + 5 + 3 + 8 + 2 + 4 + 3 + 5) * 5 + 50, beat.takes(31));
        check.due("16: fetched to 5, 4 and 1", 1, beat.wayRound(31));
        check.due("16: two of them", 1, beat.wayRound(3));
        check.due("16: four of them, to 6, 4 and 2, or 2, 4 and 1", 1, beat.wayRound(15));
        check.due("16: three of them, to 1, 4 and 2, or 2, 4 and 1", 2, beat.wayRound(14));
    }

    private static void changesNothing() {
        WinderLadders beat = new WinderLadders();
        Check.write(beat, "+3^0~50;+9^8~-7;+4^3~0;l4;l9;t5;s;b0,1");
        beat.carryOut();
        Check.write(beat, "t5;");
        String before = Check.all(beat);
        int changes = beat.count(13);
        for (int i = -2; i < 20; i++) {
            beat.takes(i);
            beat.wayRound(i);
            beat.lasts(i);
            beat.needs(i);
            beat.ladderFor();
            beat.fault();
        }
        check.due("12-16: all is as it was", 1, before.equals(Check.all(beat)) ? 1 : 0);
        check.due("12-16: nothing is recorded", changes, beat.count(13));
    }
}
