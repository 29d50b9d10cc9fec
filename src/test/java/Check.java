/** Counts the answers of a test that are not the ones that are due. */
final class Check {
    private int wrong = 0;

    void due(String call, long want, long got) {
        if (got != want) {
            wrong++;
            System.out.println(call + " answered " + got + ", due is " + want);
        }
    }

    void end(String test) {
        System.out.println(test + ": " + (wrong == 0 ? "all answers are as due" : wrong + " answers are not as due"));
        if (wrong != 0) {
            System.exit(1);
        }
    }

    /** Puts a text of any length on the pad. */
    static void write(WinderLadders beat, String text) {
        for (int i = 0; i < text.length(); i += 8) {
            beat.put(packed(text.substring(i, Math.min(text.length(), i + 8))));
        }
    }

    static long packed(String text) {
        long characters = 0;
        for (int i = 0; i < text.length(); i++) {
            characters = characters << 8 | text.charAt(i);
        }
        return characters;
    }

    /** All that calls which change nothing can tell about an object, for the pad only its length and fault. */
    static String all(WinderLadders beat) {
        StringBuilder told = new StringBuilder();
        for (int what = 0; what < 14; what++) {
            if (what != 13) {
                told.append(beat.count(what)).append(' ');
            }
        }
        for (int clock = 0; clock < beat.count(1); clock++) {
            for (int what = 0; what < 11; what++) {
                told.append(beat.of(clock, what)).append(' ');
            }
            told.append(beat.lasts(clock)).append(' ').append(beat.needs(clock)).append(' ');
        }
        for (int ladder = 0; ladder < beat.count(2); ladder++) {
            told.append(beat.ofLadder(ladder)).append(' ');
        }
        return told.append(beat.ladderFor()).append(' ').append(beat.fault()).toString();
    }
}
