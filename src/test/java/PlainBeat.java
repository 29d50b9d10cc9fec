import java.util.ArrayList;
import java.util.Comparator;
import java.util.LinkedList;
import java.util.List;
import java.util.regex.Matcher;
import java.util.regex.Pattern;

/** The document once more, as plainly as the Java library allows, to hold the class against. */
final class PlainBeat {
    private static final Pattern TEXT = Pattern.compile(
        "(?:O)(?:;(?:O))*".replace("O", "\\+N\\^N~-?N|lN|bN(?:,N)*|tN|s|a").replace("N", "(?:0|[1-9][0-9]?)"));

    /** house, rungs, drift, screw, off, days since it was wound, 1 if it goes, how often it was wound */
    private List<int[]> clocks = new ArrayList<>();
    private List<Integer> ladders = new ArrayList<>();
    private int[] settings = {60, 8, 5, 10};
    private int days = 0;
    private int minutes = 0;
    private String pad = "";
    private final LinkedList<PlainBeat> history = new LinkedList<>();
    private final PlainBeat[] slots = new PlainBeat[2];

    private PlainBeat copy() {
        PlainBeat copied = new PlainBeat();
        copied.take(this);
        return copied;
    }

    private void take(PlainBeat other) {
        clocks = new ArrayList<>();
        for (int[] clock : other.clocks) {
            clocks.add(clock.clone());
        }
        ladders = new ArrayList<>(other.ladders);
        settings = other.settings.clone();
        days = other.days;
        minutes = other.minutes;
    }

    private int recorded(PlainBeat before, int answer) {
        if (answer >= 0) {
            history.addLast(before);
            if (history.size() > 6) {
                history.removeFirst();
            }
        }
        return answer;
    }

    int set(int setting, int value) {
        if (setting < 0 || setting > 3 || value < 1 || value > (setting == 0 ? 999 : 30)) {
            return -2;
        }
        PlainBeat before = copy();
        int previous = settings[setting];
        settings[setting] = value;
        return recorded(before, previous);
    }

    int hang(int house, int rungs, int drift) {
        return recorded(copy(), hung(house, rungs, drift));
    }

    private int hung(int house, int rungs, int drift) {
        if (house < 0 || house > 99 || rungs < 0 || rungs > 30 || drift < -99 || drift > 99) {
            return -2;
        }
        if (clocks.size() == 16) {
            return -4;
        }
        clocks.add(new int[] {house, rungs, drift, 0, 0, 0, 1, 0});
        return clocks.size() - 1;
    }

    int ladder(int rungs) {
        return recorded(copy(), bought(rungs));
    }

    private int bought(int rungs) {
        if (rungs < 1 || rungs > 30) {
            return -2;
        }
        if (ladders.size() == 4) {
            return -4;
        }
        ladders.add(rungs);
        return ladders.size() - 1;
    }

    int screw(int clock, int turns) {
        if (clock < 0 || clock >= clocks.size()) {
            return -1;
        }
        if (turns < -20 || turns > 20) {
            return -2;
        }
        if (Math.abs(clocks.get(clock)[3] + turns) > 20) {
            return -5;
        }
        PlainBeat before = copy();
        clocks.get(clock)[3] += turns;
        return recorded(before, clocks.get(clock)[3] + 20);
    }

    private List<Integer> chosen(int set) {
        List<Integer> row = new ArrayList<>();
        for (int i = 0; i < clocks.size(); i++) {
            if ((set & (1 << i)) != 0) {
                row.add(i);
            }
        }
        return row;
    }

    int round(int set) {
        if (set < 0 || chosen(set).isEmpty()) {
            return set < 0 ? -2 : -5;
        }
        return recorded(copy(), gone(chosen(set)));
    }

    private int gone(List<Integer> row) {
        for (int number : row) {
            if (number >= clocks.size()) {
                return -1;
            }
        }
        int time = time(row);
        minutes += time;
        for (int number : row) {
            if (of(number, 9) == 1) {
                wind(clocks.get(number));
            }
        }
        return time;
    }

    private void wind(int[] clock) {
        if (clock[6] == 1 && Math.abs(clock[4]) > settings[0] / 2) {
            int turned = clock[3] - Integer.signum(clock[2] + 3 * clock[3]);
            clock[3] = Math.max(-20, Math.min(20, turned));
        }
        clock[4] = 0;
        clock[5] = 0;
        clock[6] = 1;
        clock[7]++;
    }

    /** The places where the winder is, one after the other, tell the way. */
    private int time(List<Integer> row) {
        List<Integer> places = new ArrayList<>(List.of(0));
        int worked = 0;
        int with = -6;
        for (int number : row) {
            places.add(clocks.get(number)[0]);
            if (of(number, 8) != -6 && of(number, 8) != with) {
                with = of(number, 8);
                places.add(0);
                places.add(clocks.get(number)[0]);
            }
            worked += of(number, 9) * settings[3];
        }
        places.add(0);
        for (int i = 1; i < places.size(); i++) {
            worked += Math.abs(places.get(i) - places.get(i - 1)) * settings[2];
        }
        return worked;
    }

    int pass(int more) {
        return recorded(copy(), passed(more));
    }

    private int passed(int more) {
        if (more < 1 || more > 99) {
            return -2;
        }
        if (days + more > 9999) {
            return -5;
        }
        for (int[] clock : clocks) {
            clock[5] += more;
            clock[6] = clock[5] > settings[1] ? 0 : clock[6];
            clock[4] = clock[6] == 1 ? clock[4] + more * (clock[2] + 3 * clock[3]) : 43200;
        }
        days += more;
        return Integer.bitCount(count(3));
    }

    int change(int autumn) {
        return recorded(copy(), changed(autumn));
    }

    private int changed(int autumn) {
        if (autumn != 0 && autumn != 1) {
            return -2;
        }
        int go = 0;
        for (int[] clock : clocks) {
            clock[4] += clock[6] * (3600 - 7200 * autumn);
            go += clock[6];
        }
        return go;
    }

    int of(int number, int what) {
        if (number < 0 || number >= clocks.size()) {
            return -1;
        }
        int[] clock = clocks.get(number);
        int needed = ladders.stream().filter(rungs -> clock[1] > 0 && rungs >= clock[1]).min(Comparator.naturalOrder())
            .map(ladders::indexOf).orElse(-6);
        int[] told = {clock[0], clock[1], clock[2] + 100, clock[3] + 20, clock[4] + 1000000000, clock[5], clock[6],
            Math.abs(clock[4]) <= settings[0] ? 1 : 0, needed, clock[1] == 0 || needed >= 0 ? 1 : 0, clock[7]};
        return what < 0 || what > 10 ? -2 : told[what];
    }

    int ofLadder(int ladder) {
        return ladder < 0 || ladder >= ladders.size() ? -1 : ladders.get(ladder);
    }

    int count(int what) {
        int still = 0;
        int off = 0;
        int high = 0;
        int wound = 0;
        for (int i = 0; i < clocks.size(); i++) {
            still += (1 - of(i, 6)) << i;
            off += 1 - of(i, 7);
            high += 1 - of(i, 9);
            wound += of(i, 10);
        }
        int[] told = {days, clocks.size(), ladders.size(), still, off, high, minutes, wound, settings[0], settings[1],
            settings[2], settings[3], pad.length(), history.size()};
        return what < 0 || what > 13 ? -2 : told[what];
    }

    int takes(int set) {
        if (set < 0 || chosen(set).isEmpty()) {
            return set < 0 ? -2 : -5;
        }
        return time(chosen(set));
    }

    int lasts(int clock) {
        if (clock < 0 || clock >= clocks.size()) {
            return -1;
        }
        PlainBeat later = copy();
        later.days = 0;
        int lasts = 0;
        while (later.of(clock, 7) == 1) {
            later.passed(1);
            lasts++;
        }
        return lasts;
    }

    int needs(int rank) {
        List<Integer> order = chosen(65535);
        order.sort(Comparator.comparing(this::lasts));
        return rank < 0 || rank >= order.size() ? -1 : order.get(rank);
    }

    int ladderFor() {
        if (ladders.size() == 4) {
            return -4;
        }
        if (count(5) == 0) {
            return -6;
        }
        for (int rungs = 1; rungs < 30; rungs++) {
            PlainBeat richer = copy();
            richer.ladder(rungs);
            if (richer.count(5) == 0) {
                return rungs;
            }
        }
        return 30;
    }

    int wayRound(int set) {
        if (takes(set) < 0) {
            return takes(set);
        }
        List<Integer> row = chosen(set);
        row.sort(Comparator.reverseOrder());
        int other = time(row);
        return takes(set) < other ? 0 : takes(set) > other ? 1 : 2;
    }

    int put(long characters) {
        String hex = characters == 0 ? "" : Long.toHexString(characters);
        hex = hex.length() % 2 == 1 ? "0" + hex : hex;
        StringBuilder text = new StringBuilder();
        for (int i = 0; i < hex.length(); i += 2) {
            int code = Integer.parseInt(hex.substring(i, i + 2), 16);
            if (code < 33 || code > 126) {
                return -2;
            }
            text.append((char) code);
        }
        if (text.length() == 0) {
            return -2;
        }
        if (pad.length() + text.length() > 80) {
            return -4;
        }
        pad = pad + text;
        return pad.length();
    }

    int wipe() {
        int length = pad.length();
        pad = "";
        return length;
    }

    /** The shortest beginning of the pad that is not a beginning of any text. */
    int fault() {
        for (int end = 1; end <= pad.length(); end++) {
            Matcher matcher = TEXT.matcher(pad.substring(0, end));
            if (!matcher.matches() && !matcher.hitEnd()) {
                return end - 1;
            }
        }
        return TEXT.matcher(pad).matches() ? -6 : pad.length();
    }

    int carryOut() {
        if (fault() != -6) {
            return -3;
        }
        PlainBeat before = copy();
        String[] orders = pad.split(";");
        pad = "";
        int done = 0;
        while (done < orders.length && carried(orders[done]) >= 0) {
            done++;
        }
        return recorded(before, done);
    }

    private int carried(String order) {
        List<Integer> numbers = new ArrayList<>();
        for (String number : order.substring(1).split("[,^~]")) {
            if (!number.isEmpty()) {
                numbers.add(Integer.parseInt(number));
            }
        }
        switch (order.charAt(0)) {
            case '+': return hung(numbers.get(0), numbers.get(1), numbers.get(2));
            case 'l': return bought(numbers.get(0));
            case 'b': return gone(numbers);
            case 't': return passed(numbers.get(0));
            case 's': return changed(0);
            default: return changed(1);
        }
    }

    int undo() {
        if (history.isEmpty()) {
            return -5;
        }
        take(history.removeLast());
        return history.size();
    }

    int save(int slot) {
        if (slot < 0 || slot > 1) {
            return -2;
        }
        slots[slot] = copy();
        return clocks.size();
    }

    int restore(int slot) {
        if (slot < 0 || slot > 1) {
            return -2;
        }
        if (slots[slot] == null) {
            return -5;
        }
        PlainBeat before = copy();
        take(slots[slot]);
        return recorded(before, clocks.size());
    }
}
