import java.util.Random;

/** Runs of 512 calls, always the same ones, each answer held against PlainBeat's. */
public final class RunsTest {
    private static final int RUNS = 300, CALLS = 512;
    private static final int[] EDGES = {Integer.MIN_VALUE, Integer.MIN_VALUE + 1, -101, -100, -21, -7, -6, -2, -1, 4, 14, 16,
        17, 20, 21, 30, 31, 80, 99, 100, 999, 1000, 65535, 65536, Integer.MAX_VALUE - 1, Integer.MAX_VALUE};
    private static final String SIGNS = "+^~-;,lbtsa0123456789";

    private final Check check;
    private final Random random;
    private final WinderLadders beat = new WinderLadders();
    private final PlainBeat plain = new PlainBeat();
    private String name;

    private RunsTest(Check check, int run) {
        this.check = check;
        this.random = new Random(run);
        this.name = "run " + run;
    }

    public static void main(String[] args) {
        Check check = new Check();
        for (int run = 0; run < RUNS; run++) {
            RunsTest test = new RunsTest(check, run);
            for (int i = 0; i < CALLS; i++) {
                test.call(i);
            }
        }
        check.end("RunsTest");
    }

    private int among(int least, int most) {
        if (random.nextInt(40) == 0) {
            return EDGES[random.nextInt(EDGES.length)];
        }
        return least + random.nextInt(most - least + 1);
    }

    private int clock() {
        return among(0, random.nextInt(10) == 0 ? 16 : Math.max(0, plain.count(1) - 1));
    }

    private int clocks() {
        return among(0, random.nextInt(10) == 0 ? 1 << 17 : (1 << plain.count(1)) - 1);
    }

    private void due(int call, String what, int got, int want) {
        check.due(name + ", call " + call + ": " + what, want, got);
    }

    private void call(int i) {
        int kind = random.nextInt(32);
        if (kind < 13) {
            changeOne(i, kind);
        } else if (kind < 17) {
            write(i);
        } else if (kind < 20) {
            due(i, "carryOut", beat.carryOut(), plain.carryOut());
        } else {
            ask(i, kind);
        }
        due(i, "count 3", beat.count(3), plain.count(3));
    }

    private void changeOne(int i, int kind) {
        int a;
        switch (kind) {
            case 0: a = among(0, 3); int value = among(1, a == 0 ? 999 : 30); due(i, "set", beat.set(a, value), plain.set(a, value)); break;
            case 1: case 2: hang(i); break;
            case 3: a = among(1, 30); due(i, "ladder", beat.ladder(a), plain.ladder(a)); break;
            case 4: a = clock(); int turns = among(-20, 20); due(i, "screw", beat.screw(a, turns), plain.screw(a, turns)); break;
            case 5: case 6: a = clocks(); due(i, "round", beat.round(a), plain.round(a)); break;
            case 7: case 8: a = among(1, random.nextInt(6) == 0 ? 99 : 4); due(i, "pass", beat.pass(a), plain.pass(a)); break;
            case 9: a = among(0, 1); due(i, "change", beat.change(a), plain.change(a)); break;
            case 10: due(i, "undo", beat.undo(), plain.undo()); break;
            case 11: a = among(0, 1); due(i, "save", beat.save(a), plain.save(a)); break;
            default: a = random.nextInt(3) > 0 ? 2 : among(0, 1); due(i, "restore", beat.restore(a), plain.restore(a));
        }
    }

    private void hang(int i) {
        int house = among(0, 99);
        int rungs = random.nextInt(3) == 0 ? 0 : among(0, 30);
        int drift = among(-99, 99);
        due(i, "hang", beat.hang(house, rungs, drift), plain.hang(house, rungs, drift));
    }

    private void ask(int i, int kind) {
        int a;
        switch (kind) {
            case 20: case 21: case 22: case 23:
                a = clock();
                int what = among(0, 10);
                due(i, "of " + what, beat.of(a, what), plain.of(a, what));
                break;
            case 24: a = among(0, 3); due(i, "ofLadder", beat.ofLadder(a), plain.ofLadder(a)); break;
            case 25: a = among(0, 13); due(i, "count " + a, beat.count(a), plain.count(a)); break;
            case 26: a = clocks(); due(i, "takes", beat.takes(a), plain.takes(a)); break;
            case 27: a = clock(); due(i, "lasts", beat.lasts(a), plain.lasts(a)); break;
            case 28: a = clock(); due(i, "needs", beat.needs(a), plain.needs(a)); break;
            case 29: due(i, "ladderFor", beat.ladderFor(), plain.ladderFor()); break;
            case 30: a = clocks(); due(i, "wayRound", beat.wayRound(a), plain.wayRound(a)); break;
            default: due(i, "fault", beat.fault(), plain.fault());
        }
    }

    private void write(int i) {
        int kind = random.nextInt(8);
        if (kind == 0) {
            due(i, "wipe", beat.wipe(), plain.wipe());
        } else if (kind == 1) {
            put(i, random.nextLong() >> random.nextInt(64));
        } else if (kind == 2) {
            put(i, SIGNS.charAt(random.nextInt(SIGNS.length())));
        } else {
            String text = plain.fault() == -6 ? ";" + orders() : orders();
            for (int at = 0; at < text.length(); at += 8) {
                put(i, Check.packed(text.substring(at, Math.min(text.length(), at + 8))));
                due(i, "fault", beat.fault(), plain.fault());
            }
        }
    }

    private void put(int i, long characters) {
        due(i, "put", beat.put(characters), plain.put(characters));
    }

    private String orders() {
        StringBuilder text = new StringBuilder(order());
        while (random.nextInt(3) > 0) {
            text.append(';').append(order());
        }
        return text.toString();
    }

    private String order() {
        switch (random.nextInt(8)) {
            case 0: return "+" + random.nextInt(101) + "^" + random.nextInt(32) + "~" + (random.nextInt(201) - 100);
            case 1: return "l" + random.nextInt(32);
            case 2: case 3: case 4: return beatOrder();
            case 5: return "t" + random.nextInt(random.nextInt(4) == 0 ? 101 : 4);
            case 6: return "s";
            default: return "a";
        }
    }

    private String beatOrder() {
        int there = Math.max(1, plain.count(1));
        StringBuilder text = new StringBuilder("b").append(random.nextInt(there));
        while (random.nextInt(4) > 0) {
            text.append(',').append(random.nextInt(30) == 0 ? 16 : random.nextInt(there));
        }
        return text.toString();
    }
}
