/** Promises 17 to 20: the pad and its orders. */
public final class TextsTest {
    private static final int BAD_VALUE = -2, BAD_TEXT = -3, TOO_MANY = -4, NONE = -6;
    private static final int OFF = 1000000000;
    private static final Check check = new Check();

    public static void main(String[] args) {
        put();
        putWrong();
        putTooMany();
        wipe();
        faultless();
        faults();
        carryOut();
        carryOutBeats();
        carryOutStops();
        carryOutRecords();
        longestText();
        check.end("TextsTest");
    }

    private static void put() {
        WinderLadders beat = new WinderLadders();
        check.due("17: one", 1, beat.put('t'));
        check.due("17: eight", 9, beat.put(Check.packed("12;b0,15")));
        check.due("17: a text", NONE, beat.fault());
        check.due("17: the order of the characters", 11, beat.put(Check.packed(";+")));
        check.due("17: ends behind the +", 11, beat.fault());
        check.due("17: least code", 12, beat.put(33));
        check.due("17: most code", 13, beat.put(126));
        check.due("17: is no change", 0, beat.count(13));
        check.due("17: length", 13, beat.count(12));
    }

    private static void putWrong() {
        WinderLadders beat = new WinderLadders();
        long[] wrong = {0, 32, 127, 255, 's' << 8, 's' << 16 | 's', 32 << 8 | 's', 's' << 8 | 32, 127 << 8 | 's',
            1L << 63 | 's', Long.MIN_VALUE, -1, Long.MAX_VALUE, (long) 's' << 56, (200L << 56) | Check.packed("sssssss"),
            (1L << 32) | 's', (long) 's' << 56 | Check.packed("ssssss")};
        for (long characters : wrong) {
            check.due("17: put(" + characters + ")", BAD_VALUE, beat.put(characters));
        }
        check.due("17: nothing is put", 0, beat.count(12));
    }

    private static void putTooMany() {
        WinderLadders beat = new WinderLadders();
        for (int i = 1; i <= 9; i++) {
            check.due("17: eight more", 8 * i, beat.put(Check.packed("s;s;s;s;")));
        }
        check.due("17: seven more", 79, beat.put(Check.packed("s;s;s;s")));
        check.due("17: two too many", TOO_MANY, beat.put(Check.packed(";s")));
        check.due("17: too many, and wrong", BAD_VALUE, beat.put(';' << 8 | 32));
        check.due("17: nothing is put", 79, beat.count(12));
        check.due("17: the 80th", 80, beat.put(';'));
        check.due("17: the 81st", TOO_MANY, beat.put('s'));
        check.due("17: fault at the end", 80, beat.fault());
    }

    private static void wipe() {
        WinderLadders beat = new WinderLadders();
        check.due("18: empty", 0, beat.wipe());
        Check.write(beat, "x;;b");
        check.due("18: four", 4, beat.wipe());
        check.due("18: empty again", 0, beat.wipe());
        check.due("18: length", 0, beat.count(12));
        check.due("18: is no change", 0, beat.count(13));
        Check.write(beat, "s");
        check.due("18: nothing of the old text", NONE, beat.fault());
    }

    private static int faultOf(String text) {
        WinderLadders beat = new WinderLadders();
        Check.write(beat, text);
        int fault = beat.fault();
        check.due("19: " + text + " stays", text.length(), beat.wipe());
        return fault;
    }

    private static void faultless() {
        String[] texts = {"s", "a", "s;a", "l0", "l9", "l10", "l99", "t0", "t99", "b0", "b0,0", "b99,1,10", "+0^0~0",
            "+99^99~99", "+1^2~-99", "+1^2~-0", "+10^20~-30;l5;b0,1;t9;s;a", "s;s;s;s;s"};
        for (String text : texts) {
            check.due("19: " + text, NONE, faultOf(text));
        }
    }

    private static void faults() {
        String[] texts = {"", "|", "|x", "|;", "s|x", "s|s", "s;|", "s;|;", "s|,", "l|", "l|x", "l0|0", "l0|5",
            "l10|0", "l99|9", "l5|,6", "l|-1", "t|", "t1|-", "t12|3", "b|", "b|,", "b0,|", "b0,|,1", "b0,1|+", "b10|0,1",
            "b1,20|0", "b1,|-2", "b0|0", "b1,0|1", "+|", "+1|", "+1^|", "+1^2|", "+1^2~|", "+1^2~-|", "+1^2~-|-1",
            "+1^2~-0|0", "+1^2~-05", "+|-1^2~3", "+1|~2", "+1^2|^3", "+1^|-2~3", "+1^2~3|^", "+100", "+10|0^1~1",
            "+1^10|0~1", "+1^1~10|0", "+1^1~-10|0", "+|^", "|S", "|A", "s;|L5", "|5", "|-5", "|~", "|^", "l5;|5", "b1;|2"};
        for (String marked : texts) {
            int place = marked.indexOf('|');
            if (place >= 0) {
                String text = marked.replace("|", "");
                check.due("19: " + marked, place, faultOf(text));
            }
        }
        check.due("19: empty", 0, faultOf(""));
        check.due("19: -05", 7, faultOf("+1^2~-05"));
        check.due("19: 100", 3, faultOf("+100"));
        check.due("19: a bar", 0, faultOf("|"));
    }

    private static void carryOut() {
        WinderLadders beat = new WinderLadders();
        Check.write(beat, "+3^5~-20;+99^0~7;l6;t2;s;l30;a;a");
        check.due("20: eight orders", 8, beat.carryOut());
        check.due("20: the pad is empty", 0, beat.count(12));
        check.due("20: clocks", 2, beat.count(1));
        check.due("20: ladders", 2, beat.count(2));
        check.due("20: ladder", 6, beat.ofLadder(0));
        check.due("20: days", 2, beat.count(0));
        int[] first = {3, 5, 80, 20, OFF - 40 - 3600, 2};
        int[] second = {99, 0, 107, 20, OFF + 14 - 3600, 2};
        for (int what = 0; what < first.length; what++) {
            check.due("20: of(0, " + what + ")", first[what], beat.of(0, what));
            check.due("20: of(1, " + what + ")", second[what], beat.of(1, what));
        }
        check.due("20: one change", 1, beat.count(13));
        Check.write(beat, "+1^0~-0");
        check.due("20: -0", 1, beat.carryOut());
        check.due("20: no drift", 100, beat.of(2, 2));
    }

    private static void carryOutBeats() {
        WinderLadders beat = new WinderLadders();
        Check.write(beat, "+2^0~40;+5^4~-40;l4;t1;b1,0,1");
        check.due("20: a beat in this order", 5, beat.carryOut());
        check.due("20: 5 there, 10 for the ladder, 3, 3, 5 back", (5 + 10 + 3 + 3 + 5) * 5 + 30, beat.count(6));
        check.due("20: wound twice", 2, beat.of(1, 10));
        check.due("20: wound once", 1, beat.of(0, 10));
        check.due("20: turned once", 21, beat.of(1, 3));
        check.due("20: turned down", 19, beat.of(0, 3));
        Check.write(beat, "t1;b0,2,1;s");
        check.due("20: no clock 2", 1, beat.carryOut());
        check.due("20: nothing of the beat is done", 1, beat.of(0, 10));
        check.due("20: no minutes of it", 26 * 5 + 30, beat.count(6));
        check.due("20: nothing behind it", OFF + 37, beat.of(0, 4));
        Check.write(beat, "b0,0,0");
        check.due("20: the same one again and again", 1, beat.carryOut());
        check.due("20: 4 there and back", 26 * 5 + 30 + 4 * 5 + 30, beat.count(6));
        Check.write(beat, "b99");
        check.due("20: no clock 99", 0, beat.carryOut());
    }

    private static void carryOutStops() {
        String[] texts = {"t0;s", "l0;s", "l31;s", "+0^31~0;s", "b1;s", "t1;t0;s", "l1;l1;l1;l1;l1;s"};
        int[] done = {0, 0, 0, 0, 0, 1, 4};
        for (int i = 0; i < texts.length; i++) {
            WinderLadders beat = new WinderLadders();
            beat.hang(0, 0, 0);
            Check.write(beat, texts[i]);
            check.due("20: " + texts[i], done[i], beat.carryOut());
            check.due("20: the pad is empty", 0, beat.count(12));
            check.due("20: s is not carried out", OFF, beat.of(0, 4));
            check.due("20: is a change", 2, beat.count(13));
            check.due("20: undo", 1, beat.undo());
            check.due("20: no days", 0, beat.count(0));
            check.due("20: no ladders", 0, beat.count(2));
        }
        WinderLadders full = new WinderLadders();
        for (int i = 0; i < 16; i++) {
            full.hang(0, 0, 0);
        }
        Check.write(full, "t1;+0^0~0;t1");
        check.due("20: a 17th clock", 1, full.carryOut());
        for (int i = 0; i < 100; i++) {
            full.pass(99);
        }
        Check.write(full, "t90;t9;t1");
        check.due("20: more than 9999 days", 1, full.carryOut());
    }

    private static void carryOutRecords() {
        WinderLadders beat = new WinderLadders();
        check.due("20: an empty pad", BAD_TEXT, beat.carryOut());
        Check.write(beat, "t1;t");
        check.due("20: a fault", BAD_TEXT, beat.carryOut());
        check.due("20: the pad stays", 4, beat.count(12));
        check.due("20: no day passed", 0, beat.count(0));
        check.due("20: no change", 0, beat.count(13));
        Check.write(beat, "9;t9");
        check.due("20: mended", 3, beat.carryOut());
        check.due("20: days", 19, beat.count(0));
        check.due("20: undo", 0, beat.undo());
        check.due("20: no days", 0, beat.count(0));
        check.due("20: the pad stays empty", 0, beat.count(12));
    }

    private static void longestText() {
        WinderLadders beat = new WinderLadders();
        beat.hang(0, 0, 0);
        StringBuilder text = new StringBuilder("b0");
        for (int i = 1; i < 40; i++) {
            text.append(",0");
        }
        Check.write(beat, text.toString());
        check.due("20: 80 characters", 80, beat.count(12));
        check.due("19: no fault", NONE, beat.fault());
        check.due("20: one beat", 1, beat.carryOut());
        check.due("20: 40 clocks", 40, beat.of(0, 10));
        check.due("20: 40 clocks' minutes", 400, beat.count(6));
        Check.write(beat, "s;s;s;s;s;s;s;s;s;s;s;s;s;s;s;s;s;s;s;s;s;s;s;s;s;s;s;s;s;s;s;s;s;s;s;s;s;s;s;s");
        check.due("20: 40 orders", 40, beat.carryOut());
        check.due("20: 40 changes", OFF + 144000, beat.of(0, 4));
    }
}
