/**
 * A small telephone exchange with rotary dials, tick by tick: finders hunt for lines that were
 * lifted, selectors and connectors follow the digits, and calls ring, are metered and end.
 */
public final class RotaryExchange {
    public static final int NO_SUCH = -1, BAD_VALUE = -2, BAD_TEXT = -3, TOO_MANY = -4, NOT_POSSIBLE = -5, NONE = -6;
    public static final int IDLE = 0, WAITING = 1, TONE = 2, DIALING = 3, RINGING = 4, RUNG = 5, TALKING = 6, CALLED = 7, BUSY = 8, VACANT = 9, PARKED = 10, HOWLING = 11;
    public static final int FREE = 0, SEEKING = 1, READY = 2, RISING = 3, HUNTING = 4, LINKED = 5, STEPPING = 6, CALLING = 7, THROUGH = 8, SOUNDING = 9;
    public static final int WAIT = 0, RING = 1, PERIOD = 2, CLEAR = 3, HOWL = 4;

    private static final int LINES = 16, LEVELS = 4, LINES_OF_A_LEVEL = 4;
    private static final int MOST_FINDERS = 4, MOST_CONNECTORS = 3, MOST_DIGITS = 4;
    private static final int MOST_TICKS = 1000, LAST_TIME = 100000, MOST_TRIAL_TICKS = 500;
    private static final int MOST_CHARACTERS = 60, CHARACTERS_OF_A_LONG = 8, MOST_TICKS_OF_AN_ACT = 200;
    private static final int SLOTS = 2;

    /** The reasons why the latest call of a line failed. */
    private static final int NO_REASON = 0, LINE_NOT_IDLE = 1, NO_CONNECTOR = 2, NO_NUMBER = 3, NO_ANSWER = 4, TOO_LONG = 5, OTHER_ENDED = 6;

    /** The settings in the order of WAIT, RING, PERIOD, CLEAR and HOWL: at first, and at most. */
    private static final int[] FIRST_SETTINGS = {20, 40, 30, 10, 15};
    private static final int[] MOST_SETTINGS = {200, 200, 100, 100, 200};

    private final Exchange exchange = new Exchange();
    /** What-if questions are played through here; it is made once, as copies would fill the room. */
    private final Exchange trial = new Exchange();
    /** A slot in which nothing was saved is null. */
    private final Exchange[] slots = new Exchange[SLOTS];
    private final Pad pad = new Pad();

    /** Creates an exchange with 2 finders and 1 connector for each level, at the time 0. */
    public RotaryExchange() {
    }

    /** Makes a new exchange; returns the number of finders that there were. */
    public int setUp(int finders, int connectors) {
        if (!isWithin(finders, 1, MOST_FINDERS) || !isWithin(connectors, 1, MOST_CONNECTORS)) {
            return BAD_VALUE;
        }
        int before = exchange.finderCount;
        exchange.renew(finders, connectors);
        return before;
    }

    /** Changes a setting; returns the previous value. */
    public int set(int setting, int value) {
        if (!isWithin(setting, 0, MOST_SETTINGS.length - 1) || !isWithin(value, 1, MOST_SETTINGS[setting])) {
            return BAD_VALUE;
        }
        return exchange.changeSetting(setting, value);
    }

    /** Lifts a line; returns its state then. */
    public int lift(int line) {
        return isLine(line) ? exchange.liftLine(line) : NO_SUCH;
    }

    /** Puts a line on the hook; returns the state that it had before. */
    public int hang(int line) {
        return isLine(line) ? exchange.hangLine(line) : NO_SUCH;
    }

    /** Dials a digit; returns the number of digits that the line has then. */
    public int dial(int line, int digit) {
        if (!isLine(line)) {
            return NO_SUCH;
        }
        return isWithin(digit, 0, 9) ? exchange.dialDigit(line, digit) : BAD_VALUE;
    }

    /** Makes ticks; returns the time then. */
    public int tick(int ticks) {
        if (!isWithin(ticks, 1, MOST_TICKS)) {
            return BAD_VALUE;
        }
        if (!exchange.hasTimeFor(ticks)) {
            return NOT_POSSIBLE;
        }
        exchange.pass(ticks);
        return exchange.time;
    }

    /** Returns a number about a line. */
    public int line(int line, int what) {
        return isLine(line) ? exchange.numberOfLine(line, what) : NO_SUCH;
    }

    /** Returns a number about a finder. */
    public int finder(int finder, int what) {
        return isWithin(finder, 0, exchange.finderCount - 1) ? exchange.finderAt(finder).numberFor(what) : NO_SUCH;
    }

    /** Returns the finder that holds a connector. */
    public int connector(int level, int connector) {
        if (!isWithin(level, 1, LEVELS) || !isWithin(connector, 0, exchange.connectorCount - 1)) {
            return NO_SUCH;
        }
        return exchange.holderOf(level, connector);
    }

    /** Returns a number about the exchange. */
    public int count(int what) {
        return what == 14 ? pad.length : exchange.numberFor(what);
    }

    /** Traces a call from the called line backward: its connector, its finder, its caller. */
    public int trace(int line, int what) {
        if (!isLine(line)) {
            return NO_SUCH;
        }
        if (!isWithin(what, 0, 2)) {
            return BAD_VALUE;
        }
        return exchange.traceFrom(line, what);
    }

    /** Returns the least number of ticks after which a line has a state, if nobody does anything. */
    public int until(int line, int state, int most) {
        if (!isLine(line)) {
            return NO_SUCH;
        }
        if (!isWithin(state, IDLE, HOWLING) || !isWithin(most, 0, MOST_TICKS)) {
            return BAD_VALUE;
        }
        trial.copyFrom(exchange);
        return trial.ticksUntil(line, state, most);
    }

    /** Tries a call in a copy; returns the state of the line at the end, or the number of ticks. */
    public int attempt(int from, int to, int what) {
        if (!isLine(from) || !isLine(to)) {
            return NO_SUCH;
        }
        if (!isWithin(what, 0, 1)) {
            return BAD_VALUE;
        }
        if (exchange.lineAt(from).state != IDLE) {
            return NOT_POSSIBLE;
        }
        trial.copyFrom(exchange);
        int ticks = trial.tryCall(from, to);
        return what == 0 ? trial.lineAt(from).state : ticks;
    }

    /** Appends characters to the pad; returns its length then. */
    public int put(long characters) {
        return pad.append(characters);
    }

    /** Empties the pad; returns the length that it had. */
    public int wipe() {
        int before = pad.length;
        pad.length = 0;
        return before;
    }

    /** Returns the fault of the pad. */
    public int fault() {
        return pad.firstFault();
    }

    /** Carries out the acts of the pad and empties it; returns the number of acts that did not fail. */
    public int carryOut() {
        if (pad.firstFault() != NONE) {
            return BAD_TEXT;
        }
        int acts = 0;
        for (int i = 0; i < pad.length; i++) {
            if (pad.beginsAnAct(i)) {
                if (!succeeds(i)) {
                    break;
                }
                acts++;
            }
        }
        pad.length = 0;
        return acts;
    }

    /** Saves the exchange in a slot; returns the time. */
    public int save(int slot) {
        if (!isWithin(slot, 0, slots.length - 1)) {
            return BAD_VALUE;
        }
        Exchange saved = slots[slot];
        if (saved == null) {
            saved = new Exchange();
            slots[slot] = saved;
        }
        saved.copyFrom(exchange);
        return exchange.time;
    }

    /** Restores what was saved last in a slot; returns the time. */
    public int restore(int slot) {
        if (!isWithin(slot, 0, slots.length - 1)) {
            return BAD_VALUE;
        }
        Exchange saved = slots[slot];
        if (saved == null) {
            return NOT_POSSIBLE;
        }
        exchange.copyFrom(saved);
        return exchange.time;
    }

    /** Carries out the act that begins at a place of the pad, which has no fault. */
    private boolean succeeds(int begin) {
        int line = pad.lineAt(begin + 1);
        switch (pad.codeAt(begin)) {
            case 'l':
                return exchange.liftLine(line) >= 0;
            case 'h':
                return exchange.hangLine(line) >= 0;
            case 'd':
                return dialsAll(line, begin + 2);
            default:
                int ticks = pad.numberAt(begin + 1);
                if (!exchange.hasTimeFor(ticks)) {
                    return false;
                }
                exchange.pass(ticks);
                return true;
        }
    }

    private boolean dialsAll(int line, int begin) {
        for (int i = begin; i < pad.length && Pad.isDigit(pad.codeAt(i)); i++) {
            if (exchange.dialDigit(line, pad.codeAt(i) - '0') < 0) {
                return false;
            }
        }
        return true;
    }

    private static boolean isLine(int number) {
        return isWithin(number, 0, LINES - 1);
    }

    private static boolean isWithin(int value, int least, int most) {
        return value >= least && value <= most;
    }

    /** A line: what is known at its subscriber's end. */
    private static final class Line {
        int state = IDLE;
        boolean lifted = false;
        int meter = 0;
        int reason = NO_REASON;
        /** The digits that were dialed and not taken yet: the first of them in the lowest 4 bits. */
        int digits = 0;
        int digitCount = 0;
        /** The finder that belongs to the line, or by which it is called. */
        int finder = NONE;
        /** Tells who was lifted first: it rises with each line that is lifted from IDLE. */
        int turn = 0;
        int parking = 0;

        void renew() {
            leaveCall(IDLE);
            lifted = false;
            meter = 0;
            reason = NO_REASON;
            turn = 0;
        }

        void copyFrom(Line other) {
            state = other.state;
            lifted = other.lifted;
            meter = other.meter;
            reason = other.reason;
            digits = other.digits;
            digitCount = other.digitCount;
            finder = other.finder;
            turn = other.turn;
            parking = other.parking;
        }

        boolean waitsUnsought() {
            return state == WAITING && finder == NONE;
        }

        boolean isCalledByAnother() {
            return state == RUNG || state == CALLED;
        }

        boolean callsAnother() {
            return state == RINGING || state == TALKING;
        }

        void appendDigit(int digit) {
            digits |= digit << (4 * digitCount);
            digitCount++;
        }

        /** Takes the first digit, and returns its pulses. */
        int takePulses() {
            int digit = digits & 15;
            digits >>>= 4;
            digitCount--;
            return digit == 0 ? 10 : digit;
        }

        /** Becomes IDLE or PARKED: nothing of a call is left but its reason. */
        void leaveCall(int next) {
            state = next;
            finder = NONE;
            parking = 0;
            digits = 0;
            digitCount = 0;
        }

        void waitParked(int howl) {
            if (state != PARKED) {
                return;
            }
            parking++;
            if (parking >= howl) {
                state = HOWLING;
                parking = 0;
            }
        }
    }

    /** A finder with its selector, and with the way of the call behind it. */
    private static final class Finder {
        int state = FREE;
        int position = 0;
        int line = NONE;
        int level = 0;
        /** The connector that it holds, or, while it hunts, at which it looks next. */
        int connector = NONE;
        int pulses = 0;
        /** The pulses by which its connector has stepped. */
        int steps = 0;
        int timer = 0;
        int clearing = 0;
        /** The line that it rings, or with which its line talks. */
        int called = NONE;

        void renew() {
            becomeFree();
            position = 0;
        }

        void copyFrom(Finder other) {
            state = other.state;
            position = other.position;
            line = other.line;
            level = other.level;
            connector = other.connector;
            pulses = other.pulses;
            steps = other.steps;
            timer = other.timer;
            clearing = other.clearing;
            called = other.called;
        }

        /** No state takes over a count of the one before. */
        void become(int next) {
            state = next;
            timer = 0;
            clearing = 0;
        }

        /** Its position stays. */
        void becomeFree() {
            become(FREE);
            line = NONE;
            level = 0;
            connector = NONE;
            pulses = 0;
            steps = 0;
            called = NONE;
        }

        boolean holdsConnector() {
            return state == LINKED || state == STEPPING || state == CALLING || state == THROUGH;
        }

        int numberFor(int what) {
            switch (what) {
                case 0:
                    return state;
                case 1:
                    return position;
                case 2:
                    return line;
                case 3:
                    return level;
                case 4:
                    return connector;
                case 5:
                    return pulses;
                case 6:
                    return timer;
                case 7:
                    return clearing;
                default:
                    return BAD_VALUE;
            }
        }
    }

    /** All that is saved, restored, and copied for a trial. */
    private static final class Exchange {
        private final Line[] lines = new Line[LINES];
        private final Finder[] finders = new Finder[MOST_FINDERS];
        /** They stand in for what does not exist, so that no index or reference can go astray. */
        private final Line noLine = new Line();
        private final Finder noFinder = new Finder();
        private final int[] settings = FIRST_SETTINGS.clone();
        int finderCount = 2;
        int connectorCount = 1;
        int time = 0;
        /** -1: none yet, so that the search for the next one begins with the finder 0. */
        private int lastAllotted = -1;
        private int lifts = 0;
        private int readies = 0;
        private int callings = 0;
        private int throughs = 0;
        private int busies = 0;
        private int vacants = 0;
        private int waitsGivenUp = 0;

        Exchange() {
            for (int i = 0; i < lines.length; i++) {
                lines[i] = new Line();
            }
            for (int i = 0; i < finders.length; i++) {
                finders[i] = new Finder();
            }
        }

        Line lineAt(int number) {
            if (number < 0 || number >= lines.length || lines[number] == null) {
                return noLine;
            }
            return lines[number];
        }

        Finder finderAt(int number) {
            if (number < 0 || number >= finders.length || finders[number] == null) {
                return noFinder;
            }
            return finders[number];
        }

        private int settingAt(int setting) {
            return setting >= 0 && setting < settings.length ? settings[setting] : BAD_VALUE;
        }

        int changeSetting(int setting, int value) {
            int before = settingAt(setting);
            if (setting >= 0 && setting < settings.length) {
                settings[setting] = value;
            }
            return before;
        }

        void renew(int newFinders, int newConnectors) {
            for (int i = 0; i < LINES; i++) {
                lineAt(i).renew();
            }
            for (int i = 0; i < MOST_FINDERS; i++) {
                finderAt(i).renew();
            }
            finderCount = newFinders;
            connectorCount = newConnectors;
            time = 0;
            lastAllotted = -1;
            lifts = 0;
            readies = 0;
            callings = 0;
            throughs = 0;
            busies = 0;
            vacants = 0;
            waitsGivenUp = 0;
        }

        void copyFrom(Exchange other) {
            for (int i = 0; i < LINES; i++) {
                lineAt(i).copyFrom(other.lineAt(i));
            }
            for (int i = 0; i < MOST_FINDERS; i++) {
                finderAt(i).copyFrom(other.finderAt(i));
            }
            for (int i = 0; i < settings.length; i++) {
                settings[i] = other.settingAt(i);
            }
            finderCount = other.finderCount;
            connectorCount = other.connectorCount;
            time = other.time;
            lastAllotted = other.lastAllotted;
            lifts = other.lifts;
            readies = other.readies;
            callings = other.callings;
            throughs = other.throughs;
            busies = other.busies;
            vacants = other.vacants;
            waitsGivenUp = other.waitsGivenUp;
        }

        int liftLine(int number) {
            Line line = lineAt(number);
            if (line.lifted) {
                return NOT_POSSIBLE;
            }
            line.lifted = true;
            if (line.state == IDLE) {
                line.state = WAITING;
                line.reason = NO_REASON;
                lifts++;
                line.turn = lifts;
            }
            return line.state;
        }

        int hangLine(int number) {
            Line line = lineAt(number);
            if (!line.lifted) {
                return NOT_POSSIBLE;
            }
            int before = line.state;
            line.lifted = false;
            if (!line.isCalledByAnother()) {
                if (line.finder != NONE) {
                    release(finderAt(line.finder));
                }
                line.leaveCall(IDLE);
            }
            return before;
        }

        /** Frees a finder whose line was hung, and lets go of the line that it calls. */
        private void release(Finder finder) {
            Line called = lineAt(finder.called);
            if (called.isCalledByAnother() && called.lifted) {
                called.reason = OTHER_ENDED;
                called.leaveCall(PARKED);
            } else if (called.isCalledByAnother()) {
                called.leaveCall(IDLE);
            }
            finder.becomeFree();
        }

        int dialDigit(int number, int digit) {
            Line line = lineAt(number);
            if (line.state != TONE && line.state != DIALING) {
                return NOT_POSSIBLE;
            }
            if (line.digitCount >= MOST_DIGITS) {
                return TOO_MANY;
            }
            line.appendDigit(digit);
            return line.digitCount;
        }

        boolean hasTimeFor(int ticks) {
            return time + ticks <= LAST_TIME;
        }

        /** Makes ticks; it does not look at the last time, as copies go beyond it. */
        void pass(int ticks) {
            for (int i = 0; i < ticks; i++) {
                for (int finder = 0; finder < finderCount; finder++) {
                    takeStep(finderAt(finder));
                }
                allotFinder();
                countParked();
                time++;
            }
        }

        private void takeStep(Finder finder) {
            Line line = lineAt(finder.line);
            switch (finder.state) {
                case SEEKING:
                    seek(finder, line);
                    break;
                case READY:
                    awaitDigit(finder, line, RISING);
                    break;
                case RISING:
                    rise(finder, line);
                    break;
                case HUNTING:
                    hunt(finder, line);
                    break;
                case LINKED:
                    awaitDigit(finder, line, STEPPING);
                    break;
                case STEPPING:
                    stepOn(finder, line);
                    break;
                case CALLING:
                    ringOn(finder, line);
                    break;
                case THROUGH:
                    talkOn(finder, line);
                    break;
                case SOUNDING:
                    soundOn(finder, line);
                    break;
                default:
                    break;
            }
        }

        private void seek(Finder finder, Line line) {
            if (finder.position == finder.line) {
                finder.become(READY);
                line.state = TONE;
                readies++;
            } else {
                finder.position = (finder.position + 1) % LINES;
            }
        }

        private void awaitDigit(Finder finder, Line line, int next) {
            if (line.digitCount > 0) {
                finder.become(next);
                finder.pulses = line.takePulses();
                line.state = DIALING;
                return;
            }
            finder.timer++;
            if (finder.timer >= settingAt(WAIT)) {
                finder.becomeFree();
                line.reason = TOO_LONG;
                line.leaveCall(PARKED);
                waitsGivenUp++;
            }
        }

        private void rise(Finder finder, Line line) {
            finder.pulses--;
            finder.level++;
            if (finder.pulses > 0) {
                return;
            }
            if (finder.level > LEVELS) {
                sound(finder, line, VACANT, NO_NUMBER);
            } else {
                finder.become(HUNTING);
                finder.connector = 0;
            }
        }

        private void hunt(Finder finder, Line line) {
            if (holderOf(finder.level, finder.connector) == NONE) {
                finder.become(LINKED);
                return;
            }
            finder.connector++;
            if (finder.connector >= connectorCount) {
                sound(finder, line, BUSY, NO_CONNECTOR);
            }
        }

        private void stepOn(Finder finder, Line line) {
            finder.pulses--;
            finder.steps++;
            if (finder.pulses > 0) {
                return;
            }
            if (finder.steps > LINES_OF_A_LEVEL) {
                sound(finder, line, VACANT, NO_NUMBER);
                return;
            }
            int number = LINES_OF_A_LEVEL * (finder.level - 1) + finder.steps - 1;
            Line called = lineAt(number);
            if (called.state != IDLE) {
                sound(finder, line, BUSY, LINE_NOT_IDLE);
                return;
            }
            finder.become(CALLING);
            finder.called = number;
            line.state = RINGING;
            called.state = RUNG;
            called.finder = line.finder;
            callings++;
        }

        private void ringOn(Finder finder, Line line) {
            Line called = lineAt(finder.called);
            if (called.lifted) {
                finder.become(THROUGH);
                line.state = TALKING;
                called.state = CALLED;
                line.meter++;
                throughs++;
                return;
            }
            finder.timer++;
            if (finder.timer >= settingAt(RING)) {
                sound(finder, line, BUSY, NO_ANSWER);
                called.leaveCall(IDLE);
            }
        }

        private void talkOn(Finder finder, Line line) {
            Line called = lineAt(finder.called);
            if (called.lifted) {
                finder.clearing = 0;
            } else {
                finder.clearing++;
                if (finder.clearing >= settingAt(CLEAR)) {
                    finder.becomeFree();
                    line.reason = OTHER_ENDED;
                    line.leaveCall(PARKED);
                    called.leaveCall(IDLE);
                    return;
                }
            }
            finder.timer++;
            int period = settingAt(PERIOD);
            if (period > 0 && finder.timer % period == 0) {
                line.meter++;
            }
        }

        private void soundOn(Finder finder, Line line) {
            finder.timer++;
            if (finder.timer >= settingAt(WAIT)) {
                finder.becomeFree();
                line.leaveCall(PARKED);
            }
        }

        /** The selector stays risen, but the connector is given up. */
        private void sound(Finder finder, Line line, int tone, int reason) {
            finder.become(SOUNDING);
            finder.connector = NONE;
            finder.called = NONE;
            line.state = tone;
            line.reason = reason;
            if (tone == BUSY) {
                busies++;
            } else {
                vacants++;
            }
        }

        private void allotFinder() {
            int number = nextFreeFinder();
            if (number == NONE) {
                return;
            }
            int waiting = firstWaitingLine();
            if (waiting == NONE) {
                return;
            }
            Finder finder = finderAt(number);
            finder.become(SEEKING);
            finder.line = waiting;
            lineAt(waiting).finder = number;
            lastAllotted = number;
        }

        private void countParked() {
            int howl = settingAt(HOWL);
            for (int i = 0; i < LINES; i++) {
                lineAt(i).waitParked(howl);
            }
        }

        /** The first free finder behind the one that was allotted last, which comes at the end itself. */
        private int nextFreeFinder() {
            for (int i = 1; i <= finderCount; i++) {
                int number = lastAllotted + i;
                if (number >= finderCount) {
                    number -= finderCount;
                }
                if (finderAt(number).state == FREE) {
                    return number;
                }
            }
            return NONE;
        }

        private int firstWaitingLine() {
            int first = NONE;
            for (int i = 0; i < LINES; i++) {
                Line line = lineAt(i);
                if (line.waitsUnsought() && (first == NONE || line.turn < lineAt(first).turn)) {
                    first = i;
                }
            }
            return first;
        }

        int holderOf(int level, int connector) {
            for (int i = 0; i < finderCount; i++) {
                Finder finder = finderAt(i);
                if (finder.holdsConnector() && finder.level == level && finder.connector == connector) {
                    return i;
                }
            }
            return NONE;
        }

        int ticksUntil(int number, int state, int most) {
            for (int ticks = 0; ticks < most; ticks++) {
                if (lineAt(number).state == state) {
                    return ticks;
                }
                pass(1);
            }
            return lineAt(number).state == state ? most : NONE;
        }

        /** Returns the number of ticks that the trial takes. */
        int tryCall(int from, int to) {
            liftLine(from);
            for (int ticks = 1; ticks <= MOST_TRIAL_TICKS; ticks++) {
                pass(1);
                int state = lineAt(from).state;
                if (endsTrial(state)) {
                    return ticks;
                }
                if (state == TONE) {
                    dialDigit(from, to / LINES_OF_A_LEVEL + 1);
                    dialDigit(from, to % LINES_OF_A_LEVEL + 1);
                }
            }
            return MOST_TRIAL_TICKS;
        }

        private static boolean endsTrial(int state) {
            return state == RINGING || state == BUSY || state == VACANT || state == PARKED || state == HOWLING;
        }

        int numberOfLine(int number, int what) {
            Line line = lineAt(number);
            switch (what) {
                case 0:
                    return line.state;
                case 1:
                    return line.lifted ? 1 : 0;
                case 2:
                    return line.finder;
                case 3:
                    return partnerOf(line);
                case 4:
                    return line.digitCount;
                case 5:
                    return line.meter;
                case 6:
                    return line.reason;
                case 7:
                    return placeOf(line);
                case 8:
                    return line.parking;
                default:
                    return BAD_VALUE;
            }
        }

        private int partnerOf(Line line) {
            Finder finder = finderAt(line.finder);
            if (line.callsAnother()) {
                return finder.called;
            }
            return line.isCalledByAnother() ? finder.line : NONE;
        }

        private int placeOf(Line line) {
            if (!line.waitsUnsought()) {
                return NONE;
            }
            int place = 0;
            for (int i = 0; i < LINES; i++) {
                if (lineAt(i).waitsUnsought() && lineAt(i).turn < line.turn) {
                    place++;
                }
            }
            return place;
        }

        int traceFrom(int number, int what) {
            Line line = lineAt(number);
            if (!line.isCalledByAnother()) {
                return NONE;
            }
            if (what == 1) {
                return line.finder;
            }
            Finder finder = finderAt(line.finder);
            return what == 0 ? finder.connector : finder.line;
        }

        int numberFor(int what) {
            switch (what) {
                case 0:
                    return time;
                case 1:
                    return finderCount;
                case 2:
                    return connectorCount;
                case 3:
                    return freeFinders();
                case 4:
                    return freeConnectors();
                case 5:
                    return sumOfMeters();
                case 6:
                    return lifts;
                case 7:
                    return readies;
                case 8:
                    return callings;
                case 9:
                    return throughs;
                case 10:
                    return busies;
                case 11:
                    return vacants;
                case 12:
                    return waitsGivenUp;
                case 13:
                    return liftedLines();
                default:
                    return settingAt(what - 15);
            }
        }

        private int freeFinders() {
            int free = 0;
            for (int i = 0; i < finderCount; i++) {
                if (finderAt(i).state == FREE) {
                    free++;
                }
            }
            return free;
        }

        private int freeConnectors() {
            int free = LEVELS * connectorCount;
            for (int i = 0; i < finderCount; i++) {
                if (finderAt(i).holdsConnector()) {
                    free--;
                }
            }
            return free;
        }

        private int sumOfMeters() {
            int sum = 0;
            for (int i = 0; i < LINES; i++) {
                sum += lineAt(i).meter;
            }
            return sum;
        }

        private int liftedLines() {
            int lifted = 0;
            for (int i = 0; i < LINES; i++) {
                if (lineAt(i).lifted) {
                    lifted++;
                }
            }
            return lifted;
        }
    }

    /** The text from which acts are read. */
    private static final class Pad {
        /** What the reader awaits behind a character; NOTHING: the character can't stand there. */
        private static final int ACT = 0, LINE = 1, DIALING_LINE = 2, FIRST_DIGIT = 3, MORE_DIGITS = 4, FIRST_FIGURE = 5, MORE_FIGURES = 6, COMMA = 7, NOTHING = 8;

        private final int[] codes = new int[MOST_CHARACTERS];
        int length = 0;

        int codeAt(int index) {
            return index >= 0 && index < length && index < codes.length ? codes[index] : 0;
        }

        int append(long characters) {
            int added = countOf(characters);
            if (added == 0) {
                return BAD_VALUE;
            }
            if (length + added > MOST_CHARACTERS) {
                return TOO_MANY;
            }
            for (int i = added - 1; i >= 0; i--) {
                appendCode((int) (characters >>> (8 * i)) & 255);
            }
            return length;
        }

        private void appendCode(int code) {
            if (length >= 0 && length < codes.length) {
                codes[length] = code;
                length++;
            }
        }

        /** The number of characters, 0 if one of them is not allowed (also a 0 below others). */
        private static int countOf(long characters) {
            int count = 0;
            long rest = characters;
            for (int i = 0; i < CHARACTERS_OF_A_LONG && rest != 0; i++) {
                if (!isWithin((int) rest & 255, 33, 126)) {
                    return 0;
                }
                count++;
                rest >>>= 8;
            }
            return count;
        }

        int firstFault() {
            int awaited = ACT;
            int number = 0;
            for (int i = 0; i < length; i++) {
                int code = codeAt(i);
                number = isDigit(code) ? 10 * number + code - '0' : 0;
                awaited = awaitedBehind(awaited, code, number);
                if (awaited == NOTHING) {
                    return i;
                }
            }
            boolean mayEnd = awaited == COMMA || awaited == MORE_DIGITS || awaited == MORE_FIGURES;
            return mayEnd ? NONE : length;
        }

        /** The number is what the digits up to this character, if it is one, make. */
        private static int awaitedBehind(int awaited, int code, int number) {
            switch (awaited) {
                case ACT:
                    return awaitedBehindLetter(code);
                case LINE:
                    return lineOf(code) == NONE ? NOTHING : COMMA;
                case DIALING_LINE:
                    return lineOf(code) == NONE ? NOTHING : FIRST_DIGIT;
                case FIRST_DIGIT:
                    return isDigit(code) ? MORE_DIGITS : NOTHING;
                case MORE_DIGITS:
                    return isDigit(code) ? MORE_DIGITS : awaitedBehindComma(code);
                case FIRST_FIGURE:
                    return isWithin(number, 1, MOST_TICKS_OF_AN_ACT) ? MORE_FIGURES : NOTHING;
                case MORE_FIGURES:
                    return isWithin(number, 1, MOST_TICKS_OF_AN_ACT) ? MORE_FIGURES : awaitedBehindComma(code);
                default:
                    return awaitedBehindComma(code);
            }
        }

        private static int awaitedBehindLetter(int code) {
            switch (code) {
                case 'l':
                case 'h':
                    return LINE;
                case 'd':
                    return DIALING_LINE;
                case 't':
                    return FIRST_FIGURE;
                default:
                    return NOTHING;
            }
        }

        private static int awaitedBehindComma(int code) {
            return code == ',' ? ACT : NOTHING;
        }

        boolean beginsAnAct(int index) {
            return index == 0 || codeAt(index - 1) == ',';
        }

        int lineAt(int index) {
            return lineOf(codeAt(index));
        }

        private static int lineOf(int code) {
            if (isDigit(code)) {
                return code - '0';
            }
            return isWithin(code, 'a', 'f') ? code - 'a' + 10 : NONE;
        }

        int numberAt(int index) {
            int number = 0;
            for (int i = index; i < length && isDigit(codeAt(i)); i++) {
                number = 10 * number + codeAt(i) - '0';
            }
            return number;
        }

        static boolean isDigit(int code) {
            return isWithin(code, '0', '9');
        }
    }
}
