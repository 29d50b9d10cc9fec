/** A clock winders' beat. What each call answers is promised in ../shared/DOC.md. */
public final class WinderLadders {
    public static final int NO_SUCH = -1, BAD_VALUE = -2, BAD_TEXT = -3, TOO_MANY = -4, NOT_POSSIBLE = -5, NONE = -6;
    public static final int TOLD = 0, WIND = 1, STEP = 2, WORK = 3;

    private static final int MOST_CLOCKS = 16, MOST_LADDERS = 4, SETTINGS = 4;
    private static final int MOST_HOUSE = 99, MOST_RUNGS = 30, MOST_DRIFT = 99, MOST_SCREW = 20;
    private static final int MOST_DAYS_AT_ONCE = 99, MOST_DAYS = 9999;
    private static final int SECONDS_A_TURN = 3, SECONDS_OF_STILL = 43200, SECONDS_OF_CHANGE = 3600;
    private static final int SPRING = 0, AUTUMN = 1;
    private static final int OFF_BASE = 1000000000, DRIFT_BASE = 100;
    private static final int MOST_UNDONE = 6, SLOTS = 2;
    private static final int MOST_SIGNS = 80, FIRST_CODE = 33, LAST_CODE = 126;
    private static final int BITS_A_SIGN = 8, SIGN_MASK = 255, SIGNS_A_PUT = 8;
    /** The longest row is "b" and numbers of one digit with commas between them. */
    private static final int MOST_NUMBERS = MOST_SIGNS / 2;
    /** All settings begin at 1. */
    private static final int[] FIRST_SETTINGS = {60, 8, 5, 10};
    private static final int[] MOST_SETTINGS = {999, 30, 30, 30};

    private final State now = new State();
    private final History history = new History();
    private final State[] slots = new State[SLOTS];
    private final boolean[] slotHolds = new boolean[SLOTS];
    private final Pad pad = new Pad();
    private final Row row = new Row();
    /** What lasts() tells of each clock, told once for all ranks. */
    private final int[] lasting = new int[MOST_CLOCKS];

    public WinderLadders() {
        for (int i = 0; i < SLOTS; i++) {
            slots[i] = new State();
        }
    }

    // ---- changes

    public int set(int setting, int value) {
        history.prepare(now);
        return keptIfDone(now.replaceSetting(setting, value));
    }

    public int hang(int house, int rungs, int drift) {
        history.prepare(now);
        return keptIfDone(now.addClock(house, rungs, drift));
    }

    public int ladder(int rungs) {
        history.prepare(now);
        return keptIfDone(now.addLadder(rungs));
    }

    public int screw(int clock, int turns) {
        history.prepare(now);
        return keptIfDone(now.turnScrew(clock, turns));
    }

    public int round(int clocks) {
        int chosen = chooseRow(clocks);
        if (chosen < 0) {
            return chosen;
        }
        history.prepare(now);
        return keptIfDone(now.walkBeat(row));
    }

    public int pass(int days) {
        history.prepare(now);
        return keptIfDone(now.passDays(days));
    }

    public int change(int autumn) {
        history.prepare(now);
        return keptIfDone(now.changeClocks(autumn));
    }

    // ---- what there is

    public int of(int clock, int what) {
        if (!now.hasClock(clock)) {
            return NO_SUCH;
        }
        Clock asked = now.clocks[clock];
        switch (what) {
            case 0: return asked.house;
            case 1: return asked.rungs;
            case 2: return asked.drift + DRIFT_BASE;
            case 3: return asked.screw + MOST_SCREW;
            case 4: return asked.off + OFF_BASE;
            case 5: return asked.daysSinceWound;
            case 6: return asked.goes ? 1 : 0;
            case 7: return asked.isOffBeyond(now.settings[TOLD]) ? 0 : 1;
            case 8: return now.ladderNeeded(asked);
            case 9: return now.canBeWound(asked) ? 1 : 0;
            case 10: return asked.timesWound;
            default: return BAD_VALUE;
        }
    }

    public int ofLadder(int ladder) {
        return now.hasLadder(ladder) ? now.ladders[ladder] : NO_SUCH;
    }

    public int count(int what) {
        switch (what) {
            case 0: return now.days;
            case 1: return now.clockCount;
            case 2: return now.ladderCount;
            case 3: return now.setOfStill();
            case 4: return now.numberOffBeyondTold();
            case 5: return now.numberThatCannotBeWound();
            case 6: return now.minutes;
            case 7: return now.timesWoundInAll();
            case 8: return now.settings[TOLD];
            case 9: return now.settings[WIND];
            case 10: return now.settings[STEP];
            case 11: return now.settings[WORK];
            case 12: return pad.length;
            case 13: return history.depth;
            default: return BAD_VALUE;
        }
    }

    // ---- what if; nothing changes

    public int takes(int clocks) {
        int chosen = chooseRow(clocks);
        return chosen < 0 ? chosen : now.minutesOf(row);
    }

    public int lasts(int clock) {
        return now.hasClock(clock) ? now.daysUntilOff(clock) : NO_SUCH;
    }

    public int needs(int rank) {
        if (rank < 0 || rank >= now.clockCount) {
            return NO_SUCH;
        }
        now.tellDaysUntilOff(lasting);
        for (int i = 0; i < now.clockCount; i++) {
            if (now.rankOf(i, lasting) == rank) {
                return i;
            }
        }
        return NO_SUCH;
    }

    public int ladderFor() {
        if (now.ladderCount >= MOST_LADDERS) {
            return TOO_MANY;
        }
        int rungs = now.rungsOutOfReach();
        return rungs == 0 ? NONE : rungs;
    }

    public int wayRound(int clocks) {
        int chosen = chooseRow(clocks);
        if (chosen < 0) {
            return chosen;
        }
        int forwards = now.minutesOf(row);
        row.turnRound();
        int backwards = now.minutesOf(row);
        if (forwards == backwards) {
            return 2;
        }
        return forwards < backwards ? 0 : 1;
    }

    // ---- texts

    public int put(long characters) {
        int added = signsIn(characters);
        if (added == 0) {
            return BAD_VALUE;
        }
        if (pad.length + added > MOST_SIGNS) {
            return TOO_MANY;
        }
        for (int i = added - 1; i >= 0; i--) {
            pad.append((char) codeAt(characters, i));
        }
        return pad.length;
    }

    public int wipe() {
        int length = pad.length;
        pad.length = 0;
        return length;
    }

    public int fault() {
        return pad.findFault();
    }

    public int carryOut() {
        if (pad.findFault() != NONE) {
            return BAD_TEXT;
        }
        history.prepare(now);
        int done = carryOrdersOut();
        pad.length = 0;
        return keptIfDone(done);
    }

    // ---- undo, saving

    public int undo() {
        return history.takeBack(now) ? history.depth : NOT_POSSIBLE;
    }

    public int save(int slot) {
        if (slot < 0 || slot >= SLOTS) {
            return BAD_VALUE;
        }
        slots[slot].copyFrom(now);
        slotHolds[slot] = true;
        return now.clockCount;
    }

    public int restore(int slot) {
        if (slot < 0 || slot >= SLOTS) {
            return BAD_VALUE;
        }
        if (!slotHolds[slot]) {
            return NOT_POSSIBLE;
        }
        history.prepare(now);
        now.copyFrom(slots[slot]);
        return keptIfDone(now.clockCount);
    }

    // ---- what the calls share

    /** An error leaves the history as it was: what was prepared is only kept behind a change. */
    private int keptIfDone(int answer) {
        if (answer >= 0) {
            history.keepPrepared();
        }
        return answer;
    }

    /** Puts the clocks of a set in the row; returns how many, or the error that round() names. */
    private int chooseRow(int clocks) {
        if (clocks < 0) {
            return BAD_VALUE;
        }
        row.clear();
        for (int i = 0; i < now.clockCount; i++) {
            if ((clocks >> i & 1) == 1) {
                row.add(i);
            }
        }
        return row.length == 0 ? NOT_POSSIBLE : row.length;
    }

    private int carryOrdersOut() {
        pad.goToStart();
        for (int done = 0; done < MOST_SIGNS; done++) {
            if (!pad.readNext() || carryOneOut() < 0) {
                return done;
            }
        }
        return MOST_SIGNS;
    }

    private int carryOneOut() {
        Row numbers = pad.numbers;
        switch (pad.kind) {
            case '+': return now.addClock(numbers.at(0), numbers.at(1), numbers.at(2));
            case 'l': return now.addLadder(numbers.at(0));
            case 'b': return now.walkBeat(numbers);
            case 't': return now.passDays(numbers.at(0));
            case 's': return now.changeClocks(SPRING);
            case 'a': return now.changeClocks(AUTUMN);
            default: return BAD_TEXT;
        }
    }

    /** Returns how many characters a number holds, 0 if it does not hold characters as put() wants them. */
    private static int signsIn(long characters) {
        for (int i = 0; i < SIGNS_A_PUT; i++) {
            int code = codeAt(characters, i);
            if (code == 0) {
                return characters >>> (i * BITS_A_SIGN) == 0 ? i : 0;
            }
            if (code < FIRST_CODE || code > LAST_CODE) {
                return 0;
            }
        }
        return SIGNS_A_PUT;
    }

    private static int codeAt(long characters, int fromLast) {
        return (int) (characters >>> (fromLast * BITS_A_SIGN)) & SIGN_MASK;
    }

    private static boolean isWithin(int value, int least, int most) {
        return value >= least && value <= most;
    }

    /** A clock at its house. */
    private static final class Clock {
        int house;
        int rungs;
        int drift;
        int screw;
        int off;
        int daysSinceWound;
        int timesWound;
        boolean goes;

        void copyFrom(Clock other) {
            house = other.house;
            rungs = other.rungs;
            drift = other.drift;
            screw = other.screw;
            off = other.off;
            daysSinceWound = other.daysSinceWound;
            timesWound = other.timesWound;
            goes = other.goes;
        }

        void begin(int newHouse, int newRungs, int newDrift) {
            house = newHouse;
            rungs = newRungs;
            drift = newDrift;
            screw = 0;
            off = 0;
            daysSinceWound = 0;
            timesWound = 0;
            goes = true;
        }

        int driftWithScrew() {
            return drift + SECONDS_A_TURN * screw;
        }

        boolean isOffBeyond(int seconds) {
            return Math.abs(off) > seconds;
        }

        void passDay(int wind) {
            if (goes) {
                off += driftWithScrew();
            }
            daysSinceWound++;
            if (daysSinceWound > wind) {
                goes = false;
                off = SECONDS_OF_STILL;
            }
        }

        void windAndSet(int told) {
            if (goes && isOffBeyond(told / 2)) {
                turnByRule();
            }
            goes = true;
            off = 0;
            daysSinceWound = 0;
            timesWound++;
        }

        void turnByRule() {
            int rate = driftWithScrew();
            if (rate > 0 && screw > -MOST_SCREW) {
                screw--;
            } else if (rate < 0 && screw < MOST_SCREW) {
                screw++;
            }
        }

        /** Standing still is beyond all that may be told, so the day on which the clock stops is the last answer. */
        int daysUntilOff(int told, int wind) {
            if (isOffBeyond(told)) {
                return 0;
            }
            int daysUntilStill = Math.max(1, wind + 1 - daysSinceWound);
            for (int day = 1; day < daysUntilStill; day++) {
                if (Math.abs(off + day * driftWithScrew()) > told) {
                    return day;
                }
            }
            return daysUntilStill;
        }
    }

    /** Everything that undo() and restore() bring back. */
    private static final class State {
        final int[] settings = new int[SETTINGS];
        final Clock[] clocks = new Clock[MOST_CLOCKS];
        final int[] ladders = new int[MOST_LADDERS];
        int clockCount;
        int ladderCount;
        int days;
        int minutes;

        State() {
            System.arraycopy(FIRST_SETTINGS, 0, settings, 0, SETTINGS);
            for (int i = 0; i < MOST_CLOCKS; i++) {
                clocks[i] = new Clock();
            }
        }

        void copyFrom(State other) {
            System.arraycopy(other.settings, 0, settings, 0, SETTINGS);
            System.arraycopy(other.ladders, 0, ladders, 0, MOST_LADDERS);
            for (int i = 0; i < other.clockCount; i++) {
                clocks[i].copyFrom(other.clocks[i]);
            }
            clockCount = other.clockCount;
            ladderCount = other.ladderCount;
            days = other.days;
            minutes = other.minutes;
        }

        boolean hasClock(int clock) {
            return clock >= 0 && clock < clockCount;
        }

        boolean hasLadder(int number) {
            return number >= 0 && number < ladderCount;
        }

        int replaceSetting(int setting, int value) {
            if (setting < 0 || setting >= SETTINGS || !isWithin(value, 1, MOST_SETTINGS[setting])) {
                return BAD_VALUE;
            }
            int previous = settings[setting];
            settings[setting] = value;
            return previous;
        }

        int addClock(int house, int rungs, int drift) {
            if (!isWithin(house, 0, MOST_HOUSE) || !isWithin(rungs, 0, MOST_RUNGS)
                    || !isWithin(drift, -MOST_DRIFT, MOST_DRIFT)) {
                return BAD_VALUE;
            }
            if (clockCount >= MOST_CLOCKS) {
                return TOO_MANY;
            }
            clocks[clockCount].begin(house, rungs, drift);
            clockCount++;
            return clockCount - 1;
        }

        int addLadder(int rungs) {
            if (!isWithin(rungs, 1, MOST_RUNGS)) {
                return BAD_VALUE;
            }
            if (ladderCount >= MOST_LADDERS) {
                return TOO_MANY;
            }
            ladders[ladderCount] = rungs;
            ladderCount++;
            return ladderCount - 1;
        }

        int turnScrew(int clock, int turns) {
            if (!hasClock(clock)) {
                return NO_SUCH;
            }
            if (!isWithin(turns, -MOST_SCREW, MOST_SCREW)) {
                return BAD_VALUE;
            }
            int turned = clocks[clock].screw + turns;
            if (!isWithin(turned, -MOST_SCREW, MOST_SCREW)) {
                return NOT_POSSIBLE;
            }
            clocks[clock].screw = turned;
            return turned + MOST_SCREW;
        }

        int passDays(int more) {
            if (!isWithin(more, 1, MOST_DAYS_AT_ONCE)) {
                return BAD_VALUE;
            }
            if (days + more > MOST_DAYS) {
                return NOT_POSSIBLE;
            }
            for (int day = 0; day < more; day++) {
                for (int i = 0; i < clockCount; i++) {
                    clocks[i].passDay(settings[WIND]);
                }
            }
            days += more;
            return clockCount - numberThatGo();
        }

        int changeClocks(int season) {
            if (season != SPRING && season != AUTUMN) {
                return BAD_VALUE;
            }
            int seconds = season == SPRING ? SECONDS_OF_CHANGE : -SECONDS_OF_CHANGE;
            for (int i = 0; i < clockCount; i++) {
                if (clocks[i].goes) {
                    clocks[i].off += seconds;
                }
            }
            return numberThatGo();
        }

        /** Returns the minutes, NO_SUCH if there is not every clock of the row. */
        int walkBeat(Row row) {
            int taken = minutesOf(row);
            if (taken < 0) {
                return taken;
            }
            for (int i = 0; i < row.length; i++) {
                int number = row.at(i);
                if (hasClock(number) && canBeWound(clocks[number])) {
                    clocks[number].windAndSet(settings[TOLD]);
                }
            }
            minutes += taken;
            return taken;
        }

        /** Returns the minutes, NO_SUCH if there is not every clock of the row. */
        int minutesOf(Row row) {
            int here = 0;
            int carried = NONE;
            int steps = 0;
            int worked = 0;
            for (int i = 0; i < row.length; i++) {
                int number = row.at(i);
                if (!hasClock(number)) {
                    return NO_SUCH;
                }
                Clock clock = clocks[number];
                steps += Math.abs(clock.house - here);
                here = clock.house;
                int needed = ladderNeeded(clock);
                if (needed != NONE && needed != carried) {
                    steps += 2 * here;
                    carried = needed;
                }
                if (canBeWound(clock)) {
                    worked++;
                }
            }
            return (steps + here) * settings[STEP] + worked * settings[WORK];
        }

        /** Returns NONE if the clock needs none, and if there is none that is long enough. */
        int ladderNeeded(Clock clock) {
            if (clock.rungs == 0) {
                return NONE;
            }
            int best = NONE;
            int bestRungs = MOST_RUNGS + 1;
            for (int i = 0; i < ladderCount; i++) {
                if (ladders[i] >= clock.rungs && ladders[i] < bestRungs) {
                    best = i;
                    bestRungs = ladders[i];
                }
            }
            return best;
        }

        boolean canBeWound(Clock clock) {
            return clock.rungs == 0 || ladderNeeded(clock) != NONE;
        }

        int numberThatGo() {
            int number = 0;
            for (int i = 0; i < clockCount; i++) {
                if (clocks[i].goes) {
                    number++;
                }
            }
            return number;
        }

        int setOfStill() {
            int still = 0;
            for (int i = 0; i < clockCount; i++) {
                if (!clocks[i].goes) {
                    still |= 1 << i;
                }
            }
            return still;
        }

        int numberOffBeyondTold() {
            int number = 0;
            for (int i = 0; i < clockCount; i++) {
                if (clocks[i].isOffBeyond(settings[TOLD])) {
                    number++;
                }
            }
            return number;
        }

        int numberThatCannotBeWound() {
            int number = 0;
            for (int i = 0; i < clockCount; i++) {
                if (!canBeWound(clocks[i])) {
                    number++;
                }
            }
            return number;
        }

        int timesWoundInAll() {
            int times = 0;
            for (int i = 0; i < clockCount; i++) {
                times += clocks[i].timesWound;
            }
            return times;
        }

        /** Returns the rungs of the highest clock that cannot be wound, 0 if all can. */
        int rungsOutOfReach() {
            int rungs = 0;
            for (int i = 0; i < clockCount; i++) {
                if (!canBeWound(clocks[i])) {
                    rungs = Math.max(rungs, clocks[i].rungs);
                }
            }
            return rungs;
        }

        int daysUntilOff(int clock) {
            return hasClock(clock) ? clocks[clock].daysUntilOff(settings[TOLD], settings[WIND]) : NO_SUCH;
        }

        void tellDaysUntilOff(int[] lasting) {
            for (int i = 0; i < clockCount && i < lasting.length; i++) {
                lasting[i] = daysUntilOff(i);
            }
        }

        /** Returns how many clocks need the winder ahead of this one, NO_SUCH if there is no such clock. */
        int rankOf(int clock, int[] lasting) {
            if (!hasClock(clock) || clock >= lasting.length) {
                return NO_SUCH;
            }
            int ahead = 0;
            for (int i = 0; i < clockCount && i < lasting.length; i++) {
                if (lasting[i] < lasting[clock] || lasting[i] == lasting[clock] && i < clock) {
                    ahead++;
                }
            }
            return ahead;
        }
    }

    /** The states to go back to, the oldest one first; the one behind them is prepared, and not yet kept. */
    private static final class History {
        final State[] states = new State[MOST_UNDONE + 1];
        int depth;

        History() {
            for (int i = 0; i <= MOST_UNDONE; i++) {
                states[i] = new State();
            }
        }

        void prepare(State now) {
            if (depth >= 0 && depth <= MOST_UNDONE) {
                states[depth].copyFrom(now);
            }
        }

        void keepPrepared() {
            if (depth < MOST_UNDONE) {
                depth++;
            } else {
                dropOldest();
            }
        }

        /** The oldest one goes behind the others: it is written over when the next one is prepared. */
        private void dropOldest() {
            State oldest = states[0];
            for (int i = 0; i < MOST_UNDONE; i++) {
                states[i] = states[i + 1];
            }
            states[MOST_UNDONE] = oldest;
        }

        boolean takeBack(State now) {
            if (depth <= 0 || depth > MOST_UNDONE) {
                return false;
            }
            depth--;
            now.copyFrom(states[depth]);
            return true;
        }
    }

    /** Numbers in a row: the clocks of a beat, or the numbers of an order. */
    private static final class Row {
        final int[] numbers = new int[MOST_NUMBERS];
        int length;

        void clear() {
            length = 0;
        }

        boolean add(int number) {
            if (length >= MOST_NUMBERS) {
                return false;
            }
            numbers[length] = number;
            length++;
            return true;
        }

        /** Returns NONE beyond the row, which is no clock and in no range. */
        int at(int i) {
            return i >= 0 && i < length ? numbers[i] : NONE;
        }

        void turnRound() {
            for (int i = 0; i < length / 2; i++) {
                int number = numbers[i];
                numbers[i] = numbers[length - 1 - i];
                numbers[length - 1 - i] = number;
            }
        }
    }

    /** The text of orders, and the place up to which it is read. */
    private static final class Pad {
        final char[] signs = new char[MOST_SIGNS];
        final Row numbers = new Row();
        int length;
        int place;
        int kind;

        void append(char sign) {
            if (length < MOST_SIGNS) {
                signs[length] = sign;
                length++;
            }
        }

        /** All that is read stands ahead of the place, so where reading fails, the place is the fault. */
        int findFault() {
            goToStart();
            for (int i = 0; i < MOST_SIGNS; i++) {
                if (!readNext()) {
                    return place;
                }
                if (place >= length) {
                    return NONE;
                }
            }
            return place;
        }

        void goToStart() {
            place = 0;
        }

        /** Reads one order more, with the ";" ahead of it if it is not the first one. */
        boolean readNext() {
            if (place > 0 && !take(';')) {
                return false;
            }
            numbers.clear();
            kind = here();
            switch (kind) {
                case '+': return take('+') && readNumber(1) && take('^') && readNumber(1) && take('~') && readValue();
                case 'l': return take('l') && readNumber(1);
                case 'b': return take('b') && readNumbers();
                case 't': return take('t') && readNumber(1);
                case 's': return take('s');
                case 'a': return take('a');
                default: return false;
            }
        }

        private boolean readNumbers() {
            for (int i = 0; i < MOST_NUMBERS; i++) {
                if (!readNumber(1)) {
                    return false;
                }
                if (!take(',')) {
                    return true;
                }
            }
            return false;
        }

        private boolean readValue() {
            return readNumber(take('-') ? -1 : 1);
        }

        /** A digit that would make the number too long or begin it with 0 is not taken, and cannot stand behind it. */
        private boolean readNumber(int factor) {
            if (!isDigit(here())) {
                return false;
            }
            int number = here() - '0';
            place++;
            if (number > 0 && isDigit(here())) {
                number = number * 10 + here() - '0';
                place++;
            }
            return numbers.add(number * factor);
        }

        private boolean take(char sign) {
            if (here() != sign) {
                return false;
            }
            place++;
            return true;
        }

        /** Behind the text it returns 0, which is no sign. */
        private char here() {
            return place >= 0 && place < length ? signs[place] : (char) 0;
        }

        private static boolean isDigit(char sign) {
            return sign >= '0' && sign <= '9';
        }
    }
}
