/** Promises 21 to 23: undo, and saved states. */
public final class HistoryTest {
    private static final int BAD_VALUE = -2, NOT_POSSIBLE = -5, NONE = -6;
    private static final Check check = new Check();

    public static void main(String[] args) {
        undo();
        undoEach();
        undoDepth();
        undoRecordsChangesOnly();
        undoKeepsPadAndSlots();
        undoOldest();
        save();
        restore();
        restoreUndone();
        restoreWhereOthersWere();
        check.end("HistoryTest");
    }

    private static WinderLadders example() {
        WinderLadders beat = new WinderLadders();
        Check.write(beat, "+3^0~50;+9^8~-7;+4^3~0;l4;l9;t5;b0,1,0");
        beat.carryOut();
        beat.set(3, 12);
        return beat;
    }

    private static void same(String what, String before, WinderLadders beat) {
        String after = Check.all(beat);
        check.due(what + ": " + before + " / " + after, 1, before.equals(after) ? 1 : 0);
    }

    private static void undo() {
        WinderLadders beat = new WinderLadders();
        check.due("21: nothing to undo", NOT_POSSIBLE, beat.undo());
        beat.hang(1, 2, 3);
        beat.set(0, 500);
        check.due("21: set is undone", 1, beat.undo());
        check.due("21: setting", 60, beat.count(8));
        check.due("21: hang is undone", 0, beat.undo());
        check.due("21: no clock", 0, beat.count(1));
        check.due("21: nothing more", NOT_POSSIBLE, beat.undo());
        beat.ladder(5);
        beat.ladder(6);
        beat.undo();
        beat.ladder(7);
        check.due("21: a change behind an undo", 7, beat.ofLadder(1));
        check.due("21: two states", 1, beat.undo());
        check.due("21: one ladder", 1, beat.count(2));
        check.due("21: the first one", 5, beat.ofLadder(0));
    }

    private static void undoEach() {
        for (int i = 0; i < 9; i++) {
            WinderLadders beat = example();
            beat.save(1);
            String before = Check.all(beat);
            int changes = beat.count(13);
            switch (i) {
                case 0: beat.set(1, 3); break;
                case 1: beat.hang(7, 7, 7); break;
                case 2: beat.ladder(20); break;
                case 3: beat.screw(1, -9); break;
                case 4: beat.round(7); break;
                case 5: beat.pass(30); break;
                case 6: beat.change(1); break;
                case 7: Check.write(beat, "s;t40;b0,2,2;+5^5~5;l3"); beat.carryOut(); break;
                default: beat.pass(20); beat.save(1); beat.undo(); beat.restore(1);
            }
            check.due("21: something is changed by " + i, 0, before.equals(Check.all(beat)) ? 1 : 0);
            check.due("21: undo " + i, changes, beat.undo());
            same("21: all is back by undo of " + i, before, beat);
        }
    }

    private static void undoDepth() {
        WinderLadders beat = new WinderLadders();
        for (int i = 1; i <= 20; i++) {
            beat.pass(i);
            check.due("21: kept", Math.min(6, i), beat.count(13));
        }
        int days = 210;
        for (int i = 20; i > 14; i--) {
            check.due("21: undo " + i, i - 15, beat.undo());
            days -= i;
            check.due("21: days", days, beat.count(0));
        }
        check.due("21: the oldest ones are dropped", NOT_POSSIBLE, beat.undo());
        check.due("21: days stay", days, beat.count(0));
    }

    private static void undoOldest() {
        for (int changes = 6; changes < 14; changes++) {
            WinderLadders beat = new WinderLadders();
            for (int i = 0; i < changes; i++) {
                beat.pass(1);
            }
            beat.pass(100);
            for (int i = 0; i < 6; i++) {
                beat.undo();
            }
            check.due("21: the oldest state behind an error", changes - 6, beat.count(0));
        }
    }

    private static void undoRecordsChangesOnly() {
        WinderLadders beat = example();
        for (int i = 0; i < 4; i++) {
            beat.pass(1);
        }
        check.due("21: six", 6, beat.count(13));
        String before = Check.all(beat);
        beat.set(0, 0);
        beat.hang(0, 0, 100);
        beat.ladder(31);
        beat.screw(5, 0);
        beat.screw(0, 21);
        beat.round(-1);
        beat.round(8);
        beat.pass(100);
        beat.change(2);
        beat.restore(0);
        beat.restore(-1);
        beat.save(0);
        beat.carryOut();
        beat.takes(1);
        same("21: errors change nothing", before, beat);
        check.due("21: and record nothing", 5, beat.undo());
        check.due("21: so the latest day is undone", 8, beat.count(0));
        beat.set(0, 60);
        beat.screw(0, 0);
        check.due("21: recorded, but nothing is different, and the oldest one is dropped", 6, beat.count(13));
        for (int i = 0; i < 4; i++) {
            beat.undo();
        }
        check.due("21: two left", 2, beat.count(13));
        check.due("21: days", 6, beat.count(0));
    }

    private static void undoKeepsPadAndSlots() {
        WinderLadders beat = new WinderLadders();
        beat.hang(1, 1, 1);
        Check.write(beat, "t1");
        beat.hang(2, 2, 2);
        beat.save(0);
        beat.undo();
        check.due("21: the pad stays", 2, beat.count(12));
        check.due("21: the slot stays", 2, beat.restore(0));
        check.due("21: its clock", 2, beat.of(1, 0));
        beat.undo();
        check.due("21: restore is undone", 1, beat.count(1));
        check.due("21: the text of the pad", 1, beat.carryOut());
    }

    private static void save() {
        WinderLadders beat = new WinderLadders();
        check.due("22: slot 2", BAD_VALUE, beat.save(2));
        check.due("22: slot -1", BAD_VALUE, beat.save(-1));
        check.due("22: no clocks", 0, beat.save(1));
        beat.hang(0, 0, 5);
        check.due("22: one clock", 1, beat.save(0));
        check.due("22: is no change", 1, beat.count(13));
        beat.pass(3);
        check.due("22: slot 1 is as it was", 0, beat.restore(1));
        check.due("22: slot 0", 1, beat.restore(0));
        check.due("22: without the days", 0, beat.count(0));
        beat.pass(2);
        beat.save(0);
        beat.pass(1);
        beat.restore(0);
        check.due("22: saved over", 2, beat.count(0));
        check.due("22: saved over, off", 1000000010, beat.of(0, 4));
    }

    private static void restore() {
        WinderLadders beat = example();
        check.due("23: slot 2", BAD_VALUE, beat.restore(2));
        check.due("23: slot -1", BAD_VALUE, beat.restore(-1));
        check.due("23: nothing was saved", NOT_POSSIBLE, beat.restore(0));
        String before = Check.all(beat);
        beat.save(0);
        check.due("23: nothing was saved in the other", NOT_POSSIBLE, beat.restore(1));
        check.due("23: errors record nothing", 2, beat.count(13));
        for (int i = 0; i < 2; i++) {
            beat.set(0, 9);
            beat.set(1, 9);
            beat.set(2, 9);
            beat.set(3, 9);
            beat.hang(1, 1, 1);
            beat.ladder(1);
            beat.screw(0, 2);
            beat.change(0);
            beat.pass(9);
            beat.round(3);
            int changes = beat.count(13);
            check.due("23: clocks", 3, beat.restore(0));
            same("23: all is restored, and the slot keeps it", before, beat);
            check.due("23: the history stays", Math.min(6, changes + 1), beat.count(13));
        }
        Check.write(beat, "s;");
        beat.restore(0);
        check.due("23: the pad stays", 2, beat.count(12));
        check.due("23: and its text", 2, beat.fault());
        check.due("23: none", NONE, beat.of(0, 8));
    }

    private static void restoreUndone() {
        WinderLadders beat = example();
        beat.save(1);
        beat.pass(3);
        String before = Check.all(beat);
        beat.restore(1);
        check.due("23: undo", 3, beat.undo());
        same("23: all is back as it was ahead of restore", before, beat);
    }

    private static void restoreWhereOthersWere() {
        WinderLadders beat = new WinderLadders();
        beat.save(0);
        beat.hang(9, 8, 7);
        beat.ladder(9);
        beat.pass(9);
        beat.round(1);
        beat.pass(2);
        beat.screw(0, 2);
        String before = Check.all(beat);
        beat.save(1);
        check.due("23: no clocks", 0, beat.restore(0));
        check.due("23: none stands still", 0, beat.count(3));
        check.due("23: none goes", 0, beat.change(0));
        beat.hang(1, 2, 3);
        beat.ladder(4);
        int[] due = {1, 2, 103, 20, 1000000000, 0, 1, 1, 0, 1, 0};
        for (int what = 0; what < due.length; what++) {
            check.due("23: a new clock, of(0, " + what + ")", due[what], beat.of(0, what));
        }
        check.due("23: clocks", 1, beat.restore(1));
        same("23: all is restored where others were", before, beat);
    }
}
