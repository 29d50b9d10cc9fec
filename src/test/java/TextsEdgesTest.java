/** The boundaries of texts and the pad: what can stand at each place, codes, lengths, and orders that are refused. */
public final class TextsEdgesTest {
    private static final int NO_SUCH = -1, BAD_VALUE = -2, BAD_TEXT = -3, TOO_MANY = -4, NOT_POSSIBLE = -5, NONE = -6;
    private static final int OFF = 1000000000;
    private static final String TEN = "0123456789";
    private static final Check check = new Check();

    /** A beginning of a text, the signs behind it with which it is a text, and those with which it is not yet one. */
    private static final String[][] PLACES = {
        {"", "sa", "+lbt"}, {"+", "", TEN}, {"+0", "", "^"}, {"+1", "", "^" + TEN}, {"+9", "", "^" + TEN}, {"+10", "", "^"},
        {"+99", "", "^"}, {"+0^", "", TEN}, {"+0^0", "", "~"}, {"+0^3", "", "~" + TEN}, {"+0^30", "", "~"}, {"+0^99", "", "~"},
        {"+0^0~", TEN, "-"}, {"+0^0~-", TEN, ""}, {"+0^0~0", "", ";"}, {"+0^0~-0", "", ";"}, {"+0^0~9", TEN, ";"},
        {"+0^0~-9", TEN, ";"}, {"+0^0~99", "", ";"}, {"+0^0~-99", "", ";"}, {"+0^0~10", "", ";"}, {"+0^0~-10", "", ";"},
        {"l", TEN, ""}, {"l0", "", ";"}, {"l1", TEN, ";"}, {"l9", TEN, ";"}, {"l10", "", ";"}, {"l99", "", ";"},
        {"t", TEN, ""}, {"t0", "", ";"}, {"t1", TEN, ";"}, {"t9", TEN, ";"}, {"t10", "", ";"}, {"t99", "", ";"},
        {"b", TEN, ""}, {"b0", "", ",;"}, {"b1", TEN, ",;"}, {"b9", TEN, ",;"}, {"b10", "", ",;"}, {"b99", "", ",;"},
        {"b0,", TEN, ""}, {"b0,0", "", ",;"}, {"b0,1", TEN, ",;"}, {"b0,10", "", ",;"}, {"b99,99,9", TEN, ",;"},
        {"b9,99,", TEN, ""}, {"s", "", ";"}, {"a", "", ";"}, {"s;", "sa", "+lbt"}, {"a;", "sa", "+lbt"}, {"l1;", "sa", "+lbt"},
        {"b1,1;", "sa", "+lbt"}, {"t10;", "sa", "+lbt"}, {"+1^1~-1;", "sa", "+lbt"}, {"s;s", "", ";"}, {"s;l", TEN, ""},
        {"a;t9", TEN, ";"}, {"t1;b", TEN, ""}, {"l0;+", "", TEN}, {"b1;+1^2", "", "~" + TEN}};

    public static void main(String[] args) {
        noCharacter();
        codesAlone();
        codesAtEachPlace();
        gaps();
        eightCharacters();
        eightyCharacters();
        wipe();
        eachPlace();
        firstFault();
        endsTooEarly();
        atEighty();
        numbersOfOrders();
        refusedOrders();
        fullOrders();
        clocksThatThereAreNot();
        clocksAgain();
        nothingRecordedByOrders();
        badTextStays();
        check.end("TextsEdgesTest");
    }

    private static void due(String call, long want, long got) {
        check.due(call, want, got);
    }

    private static int faultOf(String text) {
        WinderLadders beat = new WinderLadders();
        Check.write(beat, text);
        due("17: all of " + text, text.length(), beat.count(12));
        int fault = beat.fault();
        due("19: again, " + text, fault, beat.fault());
        due("20: " + text, fault == NONE ? 0 : BAD_TEXT, Math.min(0, beat.carryOut()));
        due("20: the pad then, " + text, fault == NONE ? 0 : text.length(), beat.count(12));
        return fault;
    }

    /** "BAD_VALUE if there is no character" */
    private static void noCharacter() {
        WinderLadders beat = new WinderLadders();
        due("17: put(0)", BAD_VALUE, beat.put(0));
        due("17: the pad is empty", 0, beat.count(12));
        beat.put('s');
        due("17: put(0) behind another", BAD_VALUE, beat.put(0));
        due("17: the pad stays", 1, beat.count(12));
    }

    /** "a code is not 33 to 126" */
    private static void codesAlone() {
        for (int code = 0; code < 256; code++) {
            boolean can = code >= 33 && code <= 126;
            due("17: put(" + code + ")", can ? 1 : BAD_VALUE, new WinderLadders().put(code));
        }
        for (long code = 0; code < 256; code++) {
            due("17: below 0, and so eight characters", BAD_VALUE, new WinderLadders().put(code - 256));
        }
    }

    private static void codesAtEachPlace() {
        int[] wrong = {1, 31, 32, 127, 128, 254, 255};
        for (int length = 1; length <= 8; length++) {
            long right = Check.packed("s;s;s;s;".substring(0, length));
            for (int place = 0; place < length; place++) {
                long others = right & ~(255L << 8 * place);
                for (int code : wrong) {
                    long characters = others | (long) code << 8 * place;
                    due("17: " + code + " at " + place + " of " + length, BAD_VALUE, new WinderLadders().put(characters));
                }
                due("17: 33 at " + place, length, new WinderLadders().put(others | 33L << 8 * place));
                due("17: 126 at " + place, length, new WinderLadders().put(others | 126L << 8 * place));
            }
        }
    }

    /** "a bit above 8 bits that are 0 is not 0" */
    private static void gaps() {
        for (int length = 0; length <= 6; length++) {
            long right = Check.packed("s;s;s;".substring(0, length));
            for (int bit = 8 * length + 8; bit < 64; bit++) {
                due("17: bit " + bit + " above " + length, BAD_VALUE, new WinderLadders().put(right | 1L << bit));
            }
            for (int above = length + 1; above < 8; above++) {
                long characters = right | (long) 's' << 8 * above;
                due("17: s at " + above + " above " + length, BAD_VALUE, new WinderLadders().put(characters));
            }
        }
    }

    /** "its lowest 8 bits are the last character", "1 to 8 characters" */
    private static void eightCharacters() {
        String text = "+1^0~-25";
        for (int length = 1; length <= 8; length++) {
            WinderLadders beat = new WinderLadders();
            due("17: " + length + " characters", length, beat.put(Check.packed(text.substring(0, length))));
            Check.write(beat, text.substring(length));
            due("17: then all", 8, beat.count(12));
            due("17: is a text", 1, beat.carryOut());
            due("17: in this order", 75, beat.of(0, 2));
        }
        WinderLadders beat = new WinderLadders();
        due("17: eight of the most code", 8, beat.put(0x7e7e7e7e7e7e7e7eL));
        due("17: eight of the least code", 16, beat.put(0x2121212121212121L));
    }

    /** "TOO_MANY if the pad would be longer than 80" */
    private static void eightyCharacters() {
        for (int before = 72; before <= 80; before++) {
            for (int length = 1; length <= 8; length++) {
                WinderLadders beat = new WinderLadders();
                Check.write(beat, "s;".repeat(40).substring(0, before));
                int want = before + length > 80 ? TOO_MANY : before + length;
                due("17: " + length + " behind " + before, want, beat.put(Check.packed("s;s;s;s;".substring(0, length))));
                due("17: then", Math.max(want, before), beat.count(12));
                due("17: wrong, and too long", BAD_VALUE, beat.put(32));
            }
        }
    }

    private static void wipe() {
        for (int length = 0; length <= 80; length += 10) {
            WinderLadders beat = new WinderLadders();
            Check.write(beat, "x;".repeat(40).substring(0, length));
            due("18: wipe of " + length, length, beat.wipe());
            due("18: wipe again", 0, beat.wipe());
            due("18: an empty pad ends too early", 0, beat.fault());
            due("18: there is room again", 8, beat.put(Check.packed("s;s;s;s;")));
            due("18: is no change", 0, beat.count(13));
            due("18: nothing to undo", NOT_POSSIBLE, beat.undo());
        }
    }

    /** "the index of the first character that cannot stand at its place", for each code at each kind of place. */
    private static void eachPlace() {
        for (String[] place : PLACES) {
            for (char sign = 33; sign <= 126; sign++) {
                int want = place[0].length();
                if (place[1].indexOf(sign) >= 0) {
                    want = NONE;
                } else if (place[2].indexOf(sign) >= 0) {
                    want++;
                }
                due("19: " + place[0] + sign, want, faultOf(place[0] + sign));
            }
        }
    }

    /** "the first character": what stands behind it does not matter. */
    private static void firstFault() {
        for (String[] place : PLACES) {
            for (char sign = 33; sign <= 126; sign++) {
                if (place[1].indexOf(sign) < 0 && place[2].indexOf(sign) < 0) {
                    due("19: " + place[0] + sign + ";s", place[0].length(), faultOf(place[0] + sign + ";s"));
                }
            }
        }
    }

    /** "if there is none and the text ends too early (also if it is empty), it is the length of the text" */
    private static void endsTooEarly() {
        String text = "+10^20~-30;l5;b0,11;t9;s;a";
        String ends = "xxxxxxxxx..xx.xx.x..xx.x.x.";
        for (int length = 0; length <= text.length(); length++) {
            int want = ends.charAt(length) == '.' ? NONE : length;
            due("19: " + length + " characters", want, faultOf(text.substring(0, length)));
        }
    }

    private static void atEighty() {
        String numbers = "b" + "0,".repeat(39);
        due("19: 80 characters", NONE, faultOf(numbers + "0"));
        due("19: 79, and too early", 79, faultOf(numbers));
        due("19: a comma at the 80th", 80, faultOf("b1" + "0,".repeat(39)));
        due("19: fault at the 80th", 79, faultOf(numbers + ";"));
        due("19: 80 characters, and a number of two digits", NONE, faultOf("s;b" + "10,".repeat(25) + "10"));
        due("19: 40 orders and a ; too many", 80, faultOf("s;".repeat(40)));
        due("19: 40 orders", NONE, faultOf("a;".repeat(39) + "s"));
        due("19: a fault at 0 of 80", 0, faultOf(";" + "s;".repeat(39) + "s"));
    }

    /** "A number is 0 to 99, without leading zeros." */
    private static void numbersOfOrders() {
        for (int number = 0; number <= 110; number++) {
            int beyond = number > 99 ? 1 : NONE;
            due("19: t" + number, beyond == 1 ? 3 : NONE, faultOf("t" + number));
            due("19: l" + number, beyond == 1 ? 3 : NONE, faultOf("l" + number));
            due("19: b0," + number, beyond == 1 ? 5 : NONE, faultOf("b0," + number));
            due("19: +" + number, beyond == 1 ? 3 : NONE, faultOf("+" + number + "^1~1"));
            due("19: +1^" + number, beyond == 1 ? 5 : NONE, faultOf("+1^" + number + "~1"));
            due("19: +1^1~" + number, beyond == 1 ? 7 : NONE, faultOf("+1^1~" + number));
            due("19: +1^1~-" + number, beyond == 1 ? 8 : NONE, faultOf("+1^1~-" + number));
            due("19: t0" + number, 2, faultOf("t0" + number));
        }
        for (int number = 0; number <= 99; number++) {
            WinderLadders beat = new WinderLadders();
            Check.write(beat, "t" + number + ";+" + number + "^0~" + number + ";+" + number + "^" + number + "~-" + number);
            int done = number == 0 ? 0 : number > 30 ? 2 : 3;
            due("20: orders with " + number, done, beat.carryOut());
            due("20: days", number, beat.count(0));
            due("20: house", number == 0 ? NO_SUCH : number, beat.of(0, 0));
            due("20: drift", number == 0 ? NO_SUCH : 100 + number, beat.of(0, 2));
            due("20: rungs", done < 3 ? NO_SUCH : number, beat.of(1, 1));
            due("20: drift below 0", done < 3 ? NO_SUCH : 100 - number, beat.of(1, 2));
        }
    }

    /** "up to the first one that returns an error": that one is not carried out, nor is what stands behind it. */
    private static void refusedOrders() {
        String[] refused = {"t0", "l0", "l31", "l99", "+0^31~0", "+99^99~99", "b1", "b99", "b0,1", "b0,0,99"};
        for (String order : refused) {
            for (int ahead = 0; ahead <= 3; ahead++) {
                WinderLadders beat = new WinderLadders();
                beat.hang(0, 0, 0);
                Check.write(beat, "s;".repeat(ahead) + order + ";a;t1");
                due("20: " + order + " behind " + ahead, ahead, beat.carryOut());
                due("20: only those", OFF + 3600 * ahead, beat.of(0, 4));
                due("20: no day", 0, beat.count(0));
                due("20: no ladder", 0, beat.count(2));
                due("20: not wound", 0, beat.count(7) + beat.count(6));
                due("20: the pad is empty", 0, beat.count(12));
                due("20: one change", 2, beat.count(13));
            }
        }
    }

    private static void fullOrders() {
        WinderLadders beat = new WinderLadders();
        Check.write(beat, "l1;l2;l3;l4;l5;s");
        due("20: the fifth ladder", 4, beat.carryOut());
        for (int i = 0; i < 15; i++) {
            beat.hang(0, 0, 0);
        }
        Check.write(beat, "+1^1~1;+2^2~2;s");
        due("20: the 17th clock", 1, beat.carryOut());
        due("20: the 16th", 1, beat.of(15, 0));
        for (int i = 0; i < 100; i++) {
            beat.pass(99);
        }
        Check.write(beat, "t98;t1;t1;s");
        due("20: the 10000th day", 2, beat.carryOut());
        due("20: 9999", 9999, beat.count(0));
        due("20: one change", 5, beat.undo());
        due("20: undone", 9900, beat.count(0));
        Check.write(beat, "t99;t0");
        due("20: both", 1, beat.carryOut());
    }

    /** "(a clock can come again; with one that there is not it is NO_SUCH, and nothing of it is done)" */
    private static void clocksThatThereAreNot() {
        String[] beats = {"b2", "b0,2", "b2,0", "b0,1,2", "b0,2,1", "b0,0,0,15", "b16", "b0,16", "b0,1,99"};
        for (String order : beats) {
            WinderLadders beat = new WinderLadders();
            beat.hang(5, 0, 50);
            beat.hang(6, 0, 50);
            beat.pass(1);
            String before = Check.all(beat);
            Check.write(beat, order);
            due("20: " + order, 0, beat.carryOut());
            due("20: nothing of it", 1, before.replaceAll("\\S+$", "").equals(Check.all(beat).replaceAll("\\S+$", "")) ? 1 : 0);
            due("20: is a change", 4, beat.count(13));
        }
        WinderLadders beat = new WinderLadders();
        for (int i = 0; i < 16; i++) {
            beat.hang(0, 0, 0);
        }
        Check.write(beat, "b15,14,13;b15;b16");
        due("20: the last one there is", 2, beat.carryOut());
        due("20: wound", 2, beat.of(15, 10));
    }

    private static void clocksAgain() {
        WinderLadders beat = new WinderLadders();
        beat.hang(1, 0, 0);
        Check.write(beat, "b" + "0,".repeat(39) + "0");
        due("20: forty times", 1, beat.carryOut());
        due("20: wound", 40, beat.of(0, 10));
        due("20: of all", 40, beat.count(7));
        due("20: minutes", 2 * 5 + 400, beat.count(6));
        beat.hang(3, 0, 0);
        Check.write(beat, "b1,0,1,0");
        due("20: to and fro", 1, beat.carryOut());
        due("20: minutes to and fro", 410 + (3 + 2 + 2 + 2 + 1) * 5 + 40, beat.count(6));
    }

    /** "An order of a text records nothing by itself." */
    private static void nothingRecordedByOrders() {
        WinderLadders beat = new WinderLadders();
        beat.pass(1);
        Check.write(beat, "t1;t1;t1;t1;t1;t1;t1;t1;s;a;+1^1~1;l1;b0");
        due("20: all", 13, beat.carryOut());
        due("21: two changes", 2, beat.count(13));
        due("21: undo", 1, beat.undo());
        due("21: one day", 1, beat.count(0));
        due("21: no clock", 0, beat.count(1));
        due("21: the pad stays empty", 0, beat.count(12));
        Check.write(beat, "t0");
        due("20: none", 0, beat.carryOut());
        due("21: recorded all the same", 2, beat.count(13));
        due("21: undo of none", 1, beat.undo());
        due("21: one day still", 1, beat.count(0));
    }

    /** "BAD_TEXT if the pad has a fault (then it stays)" */
    private static void badTextStays() {
        WinderLadders beat = new WinderLadders();
        beat.hang(0, 0, 0);
        Check.write(beat, "t1;s;b0,");
        for (int i = 0; i < 3; i++) {
            due("20: a fault", BAD_TEXT, beat.carryOut());
            due("20: the pad stays", 8, beat.count(12));
            due("20: nothing is carried out", OFF, beat.of(0, 4));
            due("20: nothing is recorded", 1, beat.count(13));
        }
        beat.put('0');
        due("20: mended", 3, beat.carryOut());
        due("20: then", 2, beat.of(0, 10));
        due("20: too long is no fault", TOO_MANY, tooLong());
    }

    private static int tooLong() {
        WinderLadders beat = new WinderLadders();
        Check.write(beat, "s;".repeat(39) + "s");
        int answer = beat.put(Check.packed(";s"));
        due("19: what is too long is not put", NONE, beat.fault());
        due("20: 40 orders", 40, beat.carryOut());
        return answer;
    }
}
