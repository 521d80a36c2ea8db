import java.util.ArrayList;
import java.util.Arrays;
import java.util.List;
import java.util.regex.Pattern;

/**
 * The document once more, in another form than the program's: connectors know who holds them, the
 * lines that wait stand in a queue, digits are lists, texts are read by patterns, and copies are
 * new objects.
 */
final class Model {
    private static final Pattern ACTS = acts();
    private static final String[] COMPLETIONS = {"", "0", "1", "00", "l0"};

    private final int[] lineState = new int[16];
    private final boolean[] lifted = new boolean[16];
    private final int[] meter = new int[16];
    private final int[] reason = new int[16];
    private final int[] parking = new int[16];
    private final List<List<Integer>> digits = new ArrayList<>();
    private final List<Integer> queue = new ArrayList<>();
    private final int[] settings = {20, 40, 30, 10, 15};
    private final int[] finderState = new int[4];
    private final int[] position = new int[4];
    private final int[] caller = new int[4];
    private final int[] level = new int[4];
    private final int[] looksAt = new int[4];
    private final int[] digit = new int[4];
    private final int[] pulses = new int[4];
    private final int[] timer = new int[4];
    private final int[] clearing = new int[4];
    private final int[][] holder = new int[5][3];
    private final int[] counts = new int[13];
    private int finders = 2;
    private int connectors = 1;
    private int next = 0;
    private int time = 0;

    String pad = "";
    private final Model[] slots = new Model[2];

    Model() {
        for (int i = 0; i < 16; i++) {
            digits.add(new ArrayList<>());
        }
        clear();
    }

    private static Pattern acts() {
        String act = "(?:[lh][0-9a-f]|d[0-9a-f][0-9]+|t(?:[1-9]|[1-9][0-9]|1[0-9][0-9]|200))";
        return Pattern.compile(act + "(?:," + act + ")*");
    }

    private void clear() {
        for (int[] row : new int[][] {lineState, meter, reason, parking, finderState, position, level, looksAt, digit, pulses, timer, clearing, counts}) {
            Arrays.fill(row, 0);
        }
        Arrays.fill(lifted, false);
        Arrays.fill(caller, -6);
        for (int[] row : holder) {
            Arrays.fill(row, -6);
        }
        digits.forEach(List::clear);
        queue.clear();
        next = 0;
        time = 0;
    }

    /** Takes over everything but the pad and the slots. */
    private void take(Model m) {
        int[][] mine = rows();
        int[][] others = m.rows();
        for (int i = 0; i < mine.length; i++) {
            System.arraycopy(others[i], 0, mine[i], 0, mine[i].length);
        }
        System.arraycopy(m.lifted, 0, lifted, 0, 16);
        for (int i = 0; i < 16; i++) {
            digits.set(i, new ArrayList<>(m.digits.get(i)));
        }
        queue.clear();
        queue.addAll(m.queue);
        finders = m.finders;
        connectors = m.connectors;
        next = m.next;
        time = m.time;
    }

    private int[][] rows() {
        return new int[][] {lineState, meter, reason, parking, settings, finderState, position, caller, level, looksAt, digit, pulses,
            timer, clearing, holder[0], holder[1], holder[2], holder[3], holder[4], counts};
    }

    private Model copy() {
        Model m = new Model();
        m.take(this);
        return m;
    }

    int setUp(int newFinders, int newConnectors) {
        if (newFinders < 1 || newFinders > 4 || newConnectors < 1 || newConnectors > 3) {
            return -2;
        }
        int before = finders;
        clear();
        finders = newFinders;
        connectors = newConnectors;
        return before;
    }

    int set(int setting, int value) {
        List<Integer> most = List.of(200, 200, 100, 100, 200);
        if (setting < 0 || setting > 4 || value < 1 || value > most.get(setting)) {
            return -2;
        }
        int before = settings[setting];
        settings[setting] = value;
        return before;
    }

    int lift(int n) {
        if (n < 0 || n > 15) {
            return -1;
        }
        if (lifted[n]) {
            return -5;
        }
        lifted[n] = true;
        if (lineState[n] == 0) {
            lineState[n] = 1;
            reason[n] = 0;
            counts[6]++;
            queue.add(n);
        }
        return lineState[n];
    }

    int hang(int n) {
        if (n < 0 || n > 15) {
            return -1;
        }
        if (!lifted[n]) {
            return -5;
        }
        int before = lineState[n];
        lifted[n] = false;
        if (before == 5 || before == 7) {
            return before;
        }
        queue.remove((Integer) n);
        lineState[n] = 0;
        digits.get(n).clear();
        int f = Arrays.stream(new int[] {0, 1, 2, 3}).filter(i -> finderState[i] != 0 && caller[i] == n).findFirst().orElse(-6);
        if (f != -6) {
            if (finderState[f] == 7 || finderState[f] == 8) {
                int called = calledBy(f);
                if (lifted[called]) {
                    reason[called] = 6;
                    park(called);
                } else {
                    lineState[called] = 0;
                }
            }
            free(f);
        }
        return before;
    }

    private int calledBy(int f) {
        return 4 * (level[f] - 1) + digit[f] - 1;
    }

    private void park(int n) {
        lineState[n] = 10;
        parking[n] = 0;
        digits.get(n).clear();
    }

    private void giveUpConnector(int f) {
        for (int[] row : holder) {
            for (int i = 0; i < 3; i++) {
                if (row[i] == f) {
                    row[i] = -6;
                }
            }
        }
    }

    private void free(int f) {
        giveUpConnector(f);
        finderState[f] = 0;
        caller[f] = -6;
    }

    private void sound(int f, int state, int why) {
        giveUpConnector(f);
        finderState[f] = 9;
        timer[f] = 0;
        lineState[caller[f]] = state;
        reason[caller[f]] = why;
        counts[state == 8 ? 10 : 11]++;
    }

    int dial(int n, int d) {
        if (n < 0 || n > 15) {
            return -1;
        }
        if (d < 0 || d > 9) {
            return -2;
        }
        if (lineState[n] != 2 && lineState[n] != 3) {
            return -5;
        }
        if (digits.get(n).size() == 4) {
            return -4;
        }
        digits.get(n).add(d);
        return digits.get(n).size();
    }

    int tick(int ticks) {
        if (ticks < 1 || ticks > 1000) {
            return -2;
        }
        if (time + ticks > 100000) {
            return -5;
        }
        for (int i = 0; i < ticks; i++) {
            one();
        }
        return time;
    }

    private void one() {
        for (int f = 0; f < finders; f++) {
            if (finderState[f] != 0) {
                step(f, caller[f]);
            }
        }
        allot();
        for (int n = 0; n < 16; n++) {
            if (lineState[n] == 10 && ++parking[n] >= settings[4]) {
                lineState[n] = 11;
            }
        }
        time++;
    }

    private void allot() {
        if (queue.isEmpty()) {
            return;
        }
        for (int i = 0; i < finders; i++) {
            int f = (next + i) % finders;
            if (finderState[f] == 0) {
                finderState[f] = 1;
                caller[f] = queue.remove(0);
                next = (f + 1) % finders;
                return;
            }
        }
    }

    /** What READY and LINKED do without a digit. */
    private void waitOn(int f, int n) {
        if (++timer[f] >= settings[0]) {
            free(f);
            reason[n] = 5;
            park(n);
            counts[12]++;
        }
    }

    private int takenPulses(int n) {
        int d = digits.get(n).remove(0);
        return d == 0 ? 10 : d;
    }

    private void step(int f, int n) {
        if (finderState[f] == 1) {
            if (position[f] == n) {
                finderState[f] = 2;
                timer[f] = 0;
                lineState[n] = 2;
                counts[7]++;
            } else {
                position[f] = position[f] == 15 ? 0 : position[f] + 1;
            }
        } else if (finderState[f] == 2) {
            if (digits.get(n).isEmpty()) {
                waitOn(f, n);
            } else {
                finderState[f] = 3;
                pulses[f] = takenPulses(n);
                level[f] = 0;
                lineState[n] = 3;
            }
        } else if (finderState[f] == 3) {
            level[f]++;
            if (--pulses[f] == 0) {
                if (level[f] <= 4) {
                    finderState[f] = 4;
                    looksAt[f] = 0;
                } else {
                    sound(f, 9, 3);
                }
            }
        } else if (finderState[f] == 4) {
            if (holder[level[f]][looksAt[f]] == -6) {
                holder[level[f]][looksAt[f]] = f;
                finderState[f] = 5;
                timer[f] = 0;
            } else if (++looksAt[f] == connectors) {
                sound(f, 8, 2);
            }
        } else {
            stepWithConnector(f, n);
        }
    }

    private void stepWithConnector(int f, int n) {
        if (finderState[f] == 5) {
            if (digits.get(n).isEmpty()) {
                waitOn(f, n);
            } else {
                finderState[f] = 6;
                digit[f] = takenPulses(n);
                pulses[f] = digit[f];
            }
        } else if (finderState[f] == 6) {
            if (--pulses[f] == 0) {
                if (digit[f] > 4) {
                    sound(f, 9, 3);
                } else if (lineState[calledBy(f)] != 0) {
                    sound(f, 8, 1);
                } else {
                    finderState[f] = 7;
                    timer[f] = 0;
                    lineState[n] = 4;
                    lineState[calledBy(f)] = 5;
                    counts[8]++;
                }
            }
        } else if (finderState[f] == 7) {
            if (lifted[calledBy(f)]) {
                finderState[f] = 8;
                timer[f] = 0;
                clearing[f] = 0;
                lineState[n] = 6;
                lineState[calledBy(f)] = 7;
                meter[n]++;
                counts[9]++;
            } else if (++timer[f] >= settings[1]) {
                lineState[calledBy(f)] = 0;
                sound(f, 8, 4);
            }
        } else if (finderState[f] == 8) {
            clearing[f] = lifted[calledBy(f)] ? 0 : clearing[f] + 1;
            if (clearing[f] >= settings[3]) {
                lineState[calledBy(f)] = 0;
                free(f);
                reason[n] = 6;
                park(n);
            } else if (++timer[f] % settings[2] == 0) {
                meter[n]++;
            }
        } else if (++timer[f] >= settings[0]) {
            free(f);
            park(n);
        }
    }

    private int finderOf(int n) {
        for (int f = 0; f < finders; f++) {
            boolean calls = finderState[f] == 7 || finderState[f] == 8;
            if (finderState[f] != 0 && (caller[f] == n || calls && calledBy(f) == n)) {
                return f;
            }
        }
        return -6;
    }

    int line(int n, int what) {
        if (n < 0 || n > 15) {
            return -1;
        }
        int f = finderOf(n);
        boolean linked = f != -6 && (finderState[f] == 7 || finderState[f] == 8);
        switch (what) {
            case 0: return lineState[n];
            case 1: return lifted[n] ? 1 : 0;
            case 2: return f;
            case 3: return !linked ? -6 : caller[f] == n ? calledBy(f) : caller[f];
            case 4: return digits.get(n).size();
            case 5: return meter[n];
            case 6: return reason[n];
            case 7: return queue.contains(n) ? queue.indexOf(n) : -6;
            case 8: return lineState[n] == 10 ? parking[n] : 0;
            default: return -2;
        }
    }

    int finder(int f, int what) {
        if (f < 0 || f >= finders) {
            return -1;
        }
        int s = finderState[f];
        switch (what) {
            case 0: return s;
            case 1: return position[f];
            case 2: return caller[f];
            case 3: return s >= 3 ? level[f] : 0;
            case 4: return s >= 4 && s <= 8 ? looksAt[f] : -6;
            case 5: return s == 3 || s == 6 ? pulses[f] : 0;
            case 6: return List.of(0, 1, 3, 4, 6).contains(s) ? 0 : timer[f];
            case 7: return s == 8 ? clearing[f] : 0;
            default: return -2;
        }
    }

    int connector(int l, int c) {
        return l < 1 || l > 4 || c < 0 || c >= connectors ? -1 : holder[l][c];
    }

    int count(int what) {
        if (what >= 6 && what <= 12) {
            return counts[what];
        }
        if (what >= 15 && what <= 19) {
            return settings[what - 15];
        }
        switch (what) {
            case 0: return time;
            case 1: return finders;
            case 2: return connectors;
            case 3: return (int) Arrays.stream(finderState, 0, finders).filter(s -> s == 0).count();
            case 4: return (int) Arrays.stream(holder).skip(1).flatMapToInt(row -> Arrays.stream(row, 0, connectors)).filter(h -> h == -6).count();
            case 5: return Arrays.stream(meter).sum();
            case 13: return (int) java.util.stream.IntStream.range(0, 16).filter(n -> lifted[n]).count();
            case 14: return pad.length();
            default: return -2;
        }
    }

    int trace(int n, int what) {
        if (n < 0 || n > 15) {
            return -1;
        }
        if (what < 0 || what > 2) {
            return -2;
        }
        if (lineState[n] != 5 && lineState[n] != 7) {
            return -6;
        }
        int f = finderOf(n);
        return what == 0 ? looksAt[f] : what == 1 ? f : caller[f];
    }

    int until(int n, int state, int most) {
        if (n < 0 || n > 15) {
            return -1;
        }
        if (state < 0 || state > 11 || most < 0 || most > 1000) {
            return -2;
        }
        Model m = copy();
        int ticks = 0;
        while (m.lineState[n] != state) {
            if (ticks == most) {
                return -6;
            }
            m.one();
            ticks++;
        }
        return ticks;
    }

    int attempt(int from, int to, int what) {
        if (from < 0 || from > 15 || to < 0 || to > 15) {
            return -1;
        }
        if (what < 0 || what > 1) {
            return -2;
        }
        if (lineState[from] != 0) {
            return -5;
        }
        Model m = copy();
        m.lift(from);
        int ticks = 0;
        boolean dialed = false;
        do {
            m.one();
            ticks++;
            if (m.lineState[from] == 2 && !dialed) {
                m.dial(from, to / 4 + 1);
                m.dial(from, to % 4 + 1);
                dialed = true;
            }
        } while (ticks < 500 && !List.of(4, 8, 9, 10, 11).contains(m.lineState[from]));
        return what == 0 ? m.lineState[from] : ticks;
    }

    int put(long characters) {
        StringBuilder added = new StringBuilder();
        boolean ended = false;
        for (int i = 0; i < 8; i++) {
            int code = (int) (characters >>> 8 * i & 255);
            if (code == 0) {
                ended = true;
            } else if (ended || code < 33 || code > 126) {
                return -2;
            } else {
                added.insert(0, (char) code);
            }
        }
        if (added.length() == 0) {
            return -2;
        }
        if (pad.length() + added.length() > 60) {
            return -4;
        }
        pad += added;
        return pad.length();
    }

    int wipe() {
        int before = pad.length();
        pad = "";
        return before;
    }

    int fault() {
        if (ACTS.matcher(pad).matches()) {
            return -6;
        }
        for (int i = 0; i < pad.length(); i++) {
            String begin = pad.substring(0, i + 1);
            if (Arrays.stream(COMPLETIONS).noneMatch(end -> ACTS.matcher(begin + end).matches())) {
                return i;
            }
        }
        return pad.length();
    }

    int carryOut() {
        if (fault() != -6) {
            return -3;
        }
        int acts = 0;
        for (String act : pad.split(",")) {
            if (!succeeds(act)) {
                break;
            }
            acts++;
        }
        pad = "";
        return acts;
    }

    private boolean succeeds(String act) {
        if (act.startsWith("t")) {
            return tick(Integer.parseInt(act.substring(1))) >= 0;
        }
        int n = Integer.parseInt(act.substring(1, 2), 16);
        if (!act.startsWith("d")) {
            return (act.startsWith("l") ? lift(n) : hang(n)) >= 0;
        }
        return act.substring(2).chars().allMatch(c -> dial(n, c - '0') >= 0);
    }

    int save(int slot) {
        if (slot != 0 && slot != 1) {
            return -2;
        }
        slots[slot] = copy();
        return time;
    }

    int restore(int slot) {
        if (slot != 0 && slot != 1) {
            return -2;
        }
        if (slots[slot] == null) {
            return -5;
        }
        take(slots[slot]);
        return time;
    }
}
