/** Counts the answers of a test that are not the ones that are due. */
final class Check {
    private int wrong = 0;

    void due(String call, long want, long got) {
        if (got != want) {
            wrong++;
            System.out.println(call + " answered " + got + ", due is " + want);
        }
    }

    void end(String test) {
        System.out.println(test + ": " + (wrong == 0 ? "all answers are as due" : wrong + " answers are not as due"));
        if (wrong != 0) {
            System.exit(1);
        }
    }

    /** Puts a text of any length on the pad. */
    static void write(WinderLadders beat, String text) {
        for (int i = 0; i < text.length(); i += 8) {
            beat.put(packed(text.substring(i, Math.min(text.length(), i + 8))));
        }
    }

    static long packed(String text) {
        long characters = 0;
        for (int i = 0; i < text.length(); i++) {
            characters = characters << 8 | text.charAt(i);
        }
        return characters;
    }

    /** All that calls which change nothing can tell about an object, for the pad only its length and fault. */
    static String all(WinderLadders beat) {
        StringBuilder told = new StringBuilder();
        for (int what = 0; what < 14; what++) {
            if (what != 13) {
                told.append(beat.count(what)).append(' ');
            }
        }
        for (int clock = 0; clock < beat.count(1); clock++) {
            for (int what = 0; what < 11; what++) {
                told.append(beat.of(clock, what)).append(' ');
            }
            told.append(beat.lasts(clock)).append(' ').append(beat.needs(clock)).append(' ');
        }
        for (int ladder = 0; ladder < beat.count(2); ladder++) {
            told.append(beat.ofLadder(ladder)).append(' ');
        }
        return told.append(beat.ladderFor()).append(' ').append(beat.fault()).toString();
    }

    /** All that can be told, as by all(), and then the history, the slots and the text of the pad; uses the object up. */
    static String deep(WinderLadders beat) {
        StringBuilder told = new StringBuilder(all(beat));
        int changes = beat.count(13);
        told.append('/').append(changes);
        for (int i = 0; i <= changes; i++) {
            told.append('/').append(beat.undo()).append(' ').append(all(beat));
        }
        for (int slot = 0; slot < 2; slot++) {
            told.append('/').append(beat.restore(slot)).append(' ').append(all(beat));
        }
        return told.append('/').append(beat.carryOut()).append(' ').append(all(beat)).toString();
    }

    /** Numbers at both ends of a range and beyond them, and those far off that a short or a byte would mistake. */
    static int[] around(int least, int most) {
        int[] far = {Integer.MIN_VALUE, Integer.MIN_VALUE + 1, -65536, -65535, -32769, -256, -255, -129, 128, 255, 256, 257,
            32767, 32768, 65535, 65536, 65537, 1 << 24, 1 << 30, Integer.MAX_VALUE - 1, Integer.MAX_VALUE};
        int[] numbers = new int[10 + far.length];
        for (int i = 0; i < 5; i++) {
            numbers[i] = least - 3 + i;
            numbers[5 + i] = most - 1 + i;
        }
        System.arraycopy(far, 0, numbers, 10, far.length);
        return numbers;
    }
}
