/**
 * The boundary cases of "Equipment", "Settings" and of the promises 1 (a new object), 2 (setUp), 3 (set), 9 (finder),
 * 10 (connector), 11 (count) and 12 (trace), a test for each sentence.
 */
public final class EquipmentBoundariesTest {
    private static final Due D = new Due("EquipmentBoundariesTest");
    private static final int RINGING = 4, RUNG = 5, CALLED = 7, BUSY = 8, VACANT = 9, HOWLING = 11;

    public static void main(String[] args) {
        aNewObject();
        finders1To4AndConnectors1To3();
        setUpBesideItsRanges();
        setUpReturnsTheFindersThatThereWere();
        setUpMakesAllNew();
        setUpKeepsTheSettings();
        setUpToMoreFindersThanBefore();
        settingsFromTheirLeastToTheirMost();
        settingsBesideTheirRanges();
        positionStaysWhenItBecomesFree();
        digitsOfTheLines0To15();
        levelsAbove4();
        secondDigitsAbove4();
        connectorsAreHeldFromLinkedToThrough();
        connectorIsGivenUpByATone();
        allConnectorsOfALevelHeld();
        allFindersAndConnectorsHeld();
        finderInEveryState();
        finderWhileSounding();
        numbersOfFinders();
        numbersOfConnectors();
        countsFrom0To19();
        countsAtTheirEnds();
        countsSinceTheExchangeWasMade();
        traceInEveryState();
        traceWhileOnTheHookAndLifted();
        D.end();
    }

    /** "Creates an exchange with 2 finders and 1 connector for each level, at the time 0." */
    private static void aNewObject() {
        RotaryExchange x = new RotaryExchange();
        D.due("count(0)", x.count(0), 0);
        D.due("count(1)", x.count(1), 2);
        D.due("count(2)", x.count(2), 1);
        D.due("finder(1, 0)", x.finder(1, 0), 0);
        D.due("finder(2, 0)", x.finder(2, 0), -1);
        for (int level = 1; level <= 4; level++) {
            D.due("connector(" + level + ", 0)", x.connector(level, 0), -6);
            D.due("connector(" + level + ", 1)", x.connector(level, 1), -1);
        }
        for (int line = 0; line < 16; line++) {
            D.line("at first", x, line, 0, 0, -6, -6, 0, 0, 0, -6, 0);
        }
        RotaryExchange other = new RotaryExchange();
        x.lift(0);
        x.set(0, 1);
        D.due("another object", other.count(13), 0);
        D.due("another object", other.count(15), 20);
    }

    /** "1 to 4", "for each level, 1 to 3" */
    private static void finders1To4AndConnectors1To3() {
        for (int finders = 1; finders <= 4; finders++) {
            for (int connectors = 1; connectors <= 3; connectors++) {
                RotaryExchange x = new RotaryExchange();
                D.due("setUp(" + finders + ", " + connectors + ")", x.setUp(finders, connectors), 2);
                D.due("finders", x.count(1), finders);
                D.due("connectors", x.count(2), connectors);
                D.due("free finders", x.count(3), finders);
                D.due("free connectors", x.count(4), 4 * connectors);
                for (int number = 0; number <= 4; number++) {
                    D.due("finder(" + number + ", 0)", x.finder(number, 0), number < finders ? 0 : -1);
                }
                for (int i = 0; i < 4 * 4; i++) {
                    D.due("connector(" + (1 + i / 4) + ", " + i % 4 + ")", x.connector(1 + i / 4, i % 4), i % 4 < connectors ? -6 : -1);
                }
            }
        }
    }

    /** "BAD_VALUE if an argument is out of range" */
    private static void setUpBesideItsRanges() {
        RotaryExchange x = new RotaryExchange();
        for (int finders : new int[] {0, 5, -1, Integer.MIN_VALUE, Integer.MAX_VALUE}) {
            for (int connectors : new int[] {0, 1, 3, 4}) {
                D.due("setUp(" + finders + ", " + connectors + ")", x.setUp(finders, connectors), -2);
            }
        }
        for (int connectors : new int[] {0, 4, -1, Integer.MIN_VALUE, Integer.MAX_VALUE}) {
            for (int finders : new int[] {0, 1, 4, 5}) {
                D.due("setUp(" + finders + ", " + connectors + ")", x.setUp(finders, connectors), -2);
            }
        }
        D.due("count(1)", x.count(1), 2);
        D.due("count(2)", x.count(2), 1);
    }

    /** "Returns the number of finders that there were" */
    private static void setUpReturnsTheFindersThatThereWere() {
        RotaryExchange x = new RotaryExchange();
        D.due("setUp(4, 1)", x.setUp(4, 1), 2);
        D.due("setUp(4, 1)", x.setUp(4, 1), 4);
        D.due("setUp(1, 3)", x.setUp(1, 3), 4);
        D.due("setUp(5, 3)", x.setUp(5, 3), -2);
        D.due("setUp(3, 3)", x.setUp(3, 3), 1);
        D.due("setUp(2, 3)", x.setUp(2, 3), 3);
    }

    /** A conversation, calls that ring, wait and failed, and each count above 0. */
    private static RotaryExchange usedExchange() {
        RotaryExchange x = new RotaryExchange();
        x.setUp(4, 1);
        D.bringTalking(x, 0, 9);
        D.bring(x, HOWLING);
        D.bringTone(x, 6);
        x.dial(6, 5);
        D.waitFor(x, 6, VACANT);
        D.bringTone(x, 7);
        x.dial(7, 2);
        x.dial(7, 4);
        D.waitFor(x, 7, BUSY);
        D.bringRinging(x, 8, 12);
        x.lift(2);
        x.lift(1);
        x.tick(1);
        for (int what : new int[] {0, 5, 6, 7, 8, 9, 10, 11, 12, 13}) {
            D.due("count(" + what + ") is above 0", x.count(what) > 0);
        }
        return x;
    }

    /** "all lines are IDLE, meters, reasons, positions and counts are 0, and so is the time" */
    private static void setUpMakesAllNew() {
        RotaryExchange x = usedExchange();
        D.due("setUp(2, 1)", x.setUp(2, 1), 4);
        D.same("behind setUp", Due.everything(x), Due.everything(new RotaryExchange()));
    }

    /** "(Settings, pad and slots stay.)" */
    private static void setUpKeepsTheSettings() {
        RotaryExchange x = new RotaryExchange();
        int[] values = {200, 1, 100, 1, 200};
        for (int setting = 0; setting < 5; setting++) {
            x.set(setting, values[setting]);
        }
        Due.put(x, "l0,t");
        x.lift(3);
        x.tick(8);
        x.save(0);
        x.setUp(1, 1);
        for (int setting = 0; setting < 5; setting++) {
            D.due("count(" + (15 + setting) + ")", x.count(15 + setting), values[setting]);
        }
        D.due("count(14)", x.count(14), 4);
        D.due("fault()", x.fault(), 4);
        D.due("restore(1)", x.restore(1), -5);
        D.due("restore(0)", x.restore(0), 8);
        D.due("line(3, 0)", x.line(3, 0), 2);
        D.due("count(1)", x.count(1), 2);
    }

    /** The finders that come back with a later setUp are new ones, too. */
    private static void setUpToMoreFindersThanBefore() {
        RotaryExchange x = new RotaryExchange();
        x.setUp(4, 3);
        for (int line = 12; line < 16; line++) {
            D.bringTone(x, line);
        }
        D.finder("before", x, 3, 2, 15, 15);
        x.setUp(1, 1);
        x.tick(30);
        x.setUp(4, 1);
        for (int number = 0; number < 4; number++) {
            D.finder("behind", x, number, 0, 0, -6, 0, -6, 0, 0, 0);
        }
    }

    /** "WAIT (1 to 200; 20), RING (1 to 200; 40), PERIOD (1 to 100; 30), CLEAR (1 to 100; 10), HOWL (1 to 200; 15)" */
    private static void settingsFromTheirLeastToTheirMost() {
        int[] first = {20, 40, 30, 10, 15};
        int[] most = {200, 200, 100, 100, 200};
        RotaryExchange x = new RotaryExchange();
        for (int setting = 0; setting < 5; setting++) {
            D.due("first", x.count(15 + setting), first[setting]);
            D.due("set(" + setting + ", 1)", x.set(setting, 1), first[setting]);
            D.due("set(" + setting + ", most)", x.set(setting, most[setting]), 1);
            D.due("set(" + setting + ", the same)", x.set(setting, most[setting]), most[setting]);
            for (int other = 0; other < 5; other++) {
                D.due("count(" + (15 + other) + ")", x.count(15 + other), other <= setting ? most[other] : first[other]);
            }
        }
    }

    /** "BAD_VALUE if there is no such setting, or the value is out of its range" */
    private static void settingsBesideTheirRanges() {
        int[] first = {20, 40, 30, 10, 15};
        int[] most = {200, 200, 100, 100, 200};
        RotaryExchange x = new RotaryExchange();
        for (int setting = 0; setting < 5; setting++) {
            for (int value : new int[] {0, -1, most[setting] + 1, Integer.MIN_VALUE, Integer.MAX_VALUE}) {
                D.due("set(" + setting + ", " + value + ")", x.set(setting, value), -2);
            }
            D.due("count(" + (15 + setting) + ")", x.count(15 + setting), first[setting]);
        }
        for (int setting : new int[] {-1, 5, 15, Integer.MIN_VALUE, Integer.MAX_VALUE}) {
            D.due("set(" + setting + ", 20)", x.set(setting, 20), -2);
            D.due("set(" + setting + ", 0)", x.set(setting, 0), -2);
        }
    }

    /** "a position (0 to 15; 0 at first), which stays when it becomes free" */
    private static void positionStaysWhenItBecomesFree() {
        RotaryExchange x = new RotaryExchange();
        x.setUp(1, 1);
        D.bringTone(x, 15);
        D.due("at its line", x.finder(0, 1), 15);
        x.hang(15);
        D.due("freed by hang", x.finder(0, 1), 15);
        x.tick(10);
        D.due("later", x.finder(0, 1), 15);
        x.lift(15);
        x.tick(2);
        D.due("it is there already", x.line(15, 0), 2);
        x.tick(20);
        D.due("given up", x.line(15, 0), 10);
        D.due("freed by giving up", x.finder(0, 1), 15);
    }

    /** "So the line n has the digits n / 4 + 1 and n mod 4 + 1." */
    private static void digitsOfTheLines0To15() {
        for (int line = 0; line < 16; line++) {
            RotaryExchange x = new RotaryExchange();
            int from = line == 5 ? 6 : 5;
            D.bringTone(x, from);
            x.dial(from, line / 4 + 1);
            x.dial(from, line % 4 + 1);
            D.waitFor(x, from, RINGING);
            D.due("line(" + line + ", 0)", x.line(line, 0), RUNG);
            D.due("line(from, 3)", x.line(from, 3), line);
            D.due("connector", x.connector(line / 4 + 1, 0), 0);
            D.due("level", x.finder(0, 3), line / 4 + 1);
        }
    }

    /** "if there are no more pulses, and the level is 1 to 4 [..]; if the level is above 4, the number does not exist" */
    private static void levelsAbove4() {
        for (int digit = 0; digit <= 9; digit++) {
            RotaryExchange x = new RotaryExchange();
            D.bringTone(x, 0);
            x.dial(0, digit);
            int pulses = digit == 0 ? 10 : digit;
            x.tick(pulses);
            D.finder("before the last pulse of " + digit, x, 0, 3, 0, 0, pulses - 1, -6, 1, 0, 0);
            x.tick(1);
            D.due("state behind " + digit, x.finder(0, 0), pulses <= 4 ? 4 : 9);
            D.due("level behind " + digit, x.finder(0, 3), pulses);
            D.due("line behind " + digit, x.line(0, 0), pulses <= 4 ? 3 : VACANT);
            D.due("reason behind " + digit, x.line(0, 6), pulses <= 4 ? 0 : 3);
            D.due("vacants", x.count(11), pulses <= 4 ? 0 : 1);
        }
    }

    /** "if the digit has more than 4 pulses, the connector is given up, and the line is VACANT, with the reason 3" */
    private static void secondDigitsAbove4() {
        for (int digit = 0; digit <= 9; digit++) {
            RotaryExchange x = new RotaryExchange();
            D.bringTone(x, 0);
            x.dial(0, 4);
            x.dial(0, digit);
            int pulses = digit == 0 ? 10 : digit;
            x.tick(6 + pulses);
            D.finder("before the last pulse of " + digit, x, 0, 6, 0, 0, 4, 0, 1, 0, 0);
            x.tick(1);
            D.due("line behind " + digit, x.line(0, 0), pulses <= 4 ? RINGING : VACANT);
            D.due("reason behind " + digit, x.line(0, 6), pulses <= 4 ? 0 : 3);
            D.due("free connectors behind " + digit, x.count(4), pulses <= 4 ? 3 : 4);
            D.finder("behind " + digit, x, 0, pulses <= 4 ? 7 : 9, 0, 0, 4, pulses <= 4 ? 0 : -6, 0, 0, 0);
        }
    }

    /** "A finder that is LINKED, STEPPING, CALLING or THROUGH holds a connector, which is not free then." */
    private static void connectorsAreHeldFromLinkedToThrough() {
        RotaryExchange x = new RotaryExchange();
        int held = 0;
        x.lift(0);
        x.lift(4);
        for (int tick = 1; tick < 40; tick++) {
            x.tick(1);
            if (x.line(0, 0) == 2 && x.line(0, 4) == 0) {
                x.dial(0, 2);
                x.dial(0, 2);
            }
            int state = x.finder(0, 0);
            boolean holds = state >= 5 && state <= 8;
            D.due("connector(2, 0) while " + state, x.connector(2, 0), holds ? 0 : -6);
            D.due("count(4) while " + state, x.count(4), holds ? 3 : 4);
            held |= 1 << state;
            if (state == 7 && tick > 15) {
                x.lift(5);
            }
        }
        D.due("states that there were", held, 1 << 1 | 1 << 2 | 1 << 3 | 1 << 4 | 1 << 5 | 1 << 6 | 1 << 7 | 1 << 8);
        x.hang(0);
        D.due("connector(2, 0)", x.connector(2, 0), -6);
        D.due("count(4)", x.count(4), 4);
    }

    /** "the connector is given up": behind a called line that is not IDLE, and behind one that does not answer. */
    private static void connectorIsGivenUpByATone() {
        RotaryExchange x = new RotaryExchange();
        x.set(1, 1);
        D.bring(x, BUSY);
        D.due("connector(2, 0)", x.connector(2, 0), -6);
        D.due("finder(0, 4)", x.finder(0, 4), -6);
        D.due("count(4)", x.count(4), 4);
        x.hang(5);
        D.bring(x, RINGING);
        D.due("count(4)", x.count(4), 3);
        x.tick(1);
        D.due("line(5, 6)", x.line(5, 6), 4);
        D.due("connector(1, 0)", x.connector(1, 0), -6);
        D.due("finder(1, 4)", x.finder(1, 4), -6);
        D.due("count(4)", x.count(4), 4);
    }

    /** "Otherwise it will look at the next one; if there is none, it becomes SOUNDING, the line BUSY, with the reason 2." */
    private static void allConnectorsOfALevelHeld() {
        for (int connectors = 1; connectors <= 3; connectors++) {
            RotaryExchange x = new RotaryExchange();
            x.setUp(4, connectors);
            x.set(0, 200);
            for (int line = 0; line <= connectors; line++) {
                D.bringTone(x, line);
                x.dial(line, 4);
                x.tick(5);
                for (int look = 0; look < line; look++) {
                    D.finder("look " + look, x, line, 4, line, line, 4, look, 0, 0, 0);
                    x.tick(1);
                }
                if (line < connectors) {
                    D.finder("before", x, line, 4, line, line, 4, line, 0, 0, 0);
                    x.tick(1);
                    D.finder("behind", x, line, 5, line, line, 4, line, 0, 0, 0);
                    D.due("connector(4, " + line + ")", x.connector(4, line), line);
                } else {
                    D.finder("in vain", x, line, 9, line, line, 4, -6, 0, 0, 0);
                    D.due("line(" + line + ", 0)", x.line(line, 0), BUSY);
                    D.due("line(" + line + ", 6)", x.line(line, 6), 2);
                    D.due("count(10)", x.count(10), 1);
                }
            }
        }
    }

    /** Four calls on four levels: no finder and no connector is free. */
    private static void allFindersAndConnectorsHeld() {
        RotaryExchange x = new RotaryExchange();
        x.setUp(4, 1);
        x.set(0, 200);
        for (int line = 0; line < 4; line++) {
            D.bringTone(x, line);
            x.dial(line, line + 1);
            x.tick(line + 3);
            D.due("free finders", x.count(3), 3 - line);
            D.due("free connectors", x.count(4), 3 - line);
            D.due("connector(" + (line + 1) + ", 0)", x.connector(line + 1, 0), line);
        }
    }

    /** Promise 9: what is told of a finder in each of its states, along one call. */
    private static void finderInEveryState() {
        RotaryExchange x = new RotaryExchange();
        D.finder("FREE", x, 0, 0, 0, -6, 0, -6, 0, 0, 0);
        x.lift(2);
        x.tick(2);
        D.finder("SEEKING", x, 0, 1, 1, 2, 0, -6, 0, 0, 0);
        x.tick(9);
        D.finder("READY", x, 0, 2, 2, 2, 0, -6, 0, 7, 0);
        x.dial(2, 3);
        x.tick(1);
        D.finder("RISING", x, 0, 3, 2, 2, 0, -6, 3, 0, 0);
        x.tick(2);
        D.finder("RISING", x, 0, 3, 2, 2, 2, -6, 1, 0, 0);
        x.tick(1);
        D.finder("HUNTING", x, 0, 4, 2, 2, 3, 0, 0, 0, 0);
        x.tick(5);
        D.finder("LINKED", x, 0, 5, 2, 2, 3, 0, 0, 4, 0);
        x.dial(2, 4);
        x.tick(1);
        D.finder("STEPPING", x, 0, 6, 2, 2, 3, 0, 4, 0, 0);
        x.tick(3);
        D.finder("STEPPING", x, 0, 6, 2, 2, 3, 0, 1, 0, 0);
        x.tick(1);
        D.finder("CALLING", x, 0, 7, 2, 2, 3, 0, 0, 0, 0);
        x.tick(6);
        D.finder("CALLING", x, 0, 7, 2, 2, 3, 0, 0, 6, 0);
        x.lift(11);
        x.tick(1);
        D.finder("THROUGH", x, 0, 8, 2, 2, 3, 0, 0, 0, 0);
        x.tick(5);
        x.hang(11);
        x.tick(3);
        D.finder("THROUGH", x, 0, 8, 2, 2, 3, 0, 0, 8, 3);
        x.tick(7);
        D.finder("FREE", x, 0, 0, 2, -6, 0, -6, 0, 0, 0);
        D.due("line(2, 0)", x.line(2, 0), 10);
    }

    /** "also if it is SOUNDING": the level stays told, the connector does not. */
    private static void finderWhileSounding() {
        RotaryExchange x = new RotaryExchange();
        D.bringTone(x, 0);
        x.dial(0, 0);
        x.tick(11);
        D.finder("behind RISING", x, 0, 9, 0, 0, 10, -6, 0, 0, 0);
        x.tick(19);
        D.finder("behind RISING", x, 0, 9, 0, 0, 10, -6, 0, 19, 0);
        x.hang(0);
        D.bringTone(x, 0);
        x.dial(0, 3);
        x.dial(0, 9);
        D.waitFor(x, 0, VACANT);
        D.finder("behind STEPPING", x, 1, 9, 0, 0, 3, -6, 0, 0, 0);
        x.hang(0);
        x.set(1, 1);
        D.bringRinging(x, 0, 15);
        x.tick(1);
        D.finder("behind CALLING", x, 0, 9, 0, 0, 4, -6, 0, 0, 0);
        x.tick(20);
        D.finder("FREE", x, 0, 0, 0, -6, 0, -6, 0, 0, 0);
    }

    /** "NO_SUCH if there is no such finder; BAD_VALUE if what is out of range" */
    private static void numbersOfFinders() {
        RotaryExchange x = new RotaryExchange();
        for (int finders = 1; finders <= 4; finders++) {
            x.setUp(finders, 1);
            D.due("the last finder", x.finder(finders - 1, 7), 0);
            D.due("the last finder", x.finder(finders - 1, 8), -2);
            D.due("the last finder", x.finder(finders - 1, -1), -2);
            D.due("behind the last one", x.finder(finders, 0), -1);
            D.due("behind the last one", x.finder(finders, 8), -1);
            D.due("before the first one", x.finder(-1, 0), -1);
        }
    }

    /** "NO_SUCH if there is no such level or connector; NONE if it is free" */
    private static void numbersOfConnectors() {
        RotaryExchange x = new RotaryExchange();
        for (int connectors = 1; connectors <= 3; connectors++) {
            x.setUp(1, connectors);
            for (int level : new int[] {-1, 0, 5, Integer.MIN_VALUE, Integer.MAX_VALUE}) {
                D.due("connector(" + level + ", 0)", x.connector(level, 0), -1);
            }
            for (int level : new int[] {1, 4}) {
                D.due("the first", x.connector(level, 0), -6);
                D.due("the last", x.connector(level, connectors - 1), -6);
                D.due("behind the last", x.connector(level, connectors), -1);
                D.due("before the first", x.connector(level, -1), -1);
            }
        }
    }

    /** "BAD_VALUE if what is out of range": 0 to 19 are in it. */
    private static void countsFrom0To19() {
        RotaryExchange x = new RotaryExchange();
        for (int what = 0; what < 20; what++) {
            D.due("count(" + what + ") is a number", x.count(what) >= 0);
        }
        for (int what : new int[] {-1, 20, 21, Integer.MIN_VALUE, Integer.MIN_VALUE + 15, Integer.MAX_VALUE}) {
            D.due("count(" + what + ")", x.count(what), -2);
        }
    }

    /** Counts at their ends: all lines lifted, the pad empty and full, nothing free. */
    private static void countsAtTheirEnds() {
        RotaryExchange x = new RotaryExchange();
        x.setUp(1, 1);
        for (int line = 0; line < 16; line++) {
            x.lift(line);
        }
        x.tick(1);
        D.due("lines that are lifted", x.count(13), 16);
        D.due("lifted from IDLE", x.count(6), 16);
        D.due("free finders", x.count(3), 0);
        D.due("pad", x.count(14), 0);
        D.due("put", Due.put(x, "!".repeat(60)), 60);
        D.due("pad", x.count(14), 60);
        for (int line = 0; line < 16; line++) {
            x.hang(line);
        }
        D.due("lines that are lifted", x.count(13), 0);
        D.due("lifted from IDLE", x.count(6), 16);
        D.due("free finders", x.count(3), 1);
    }

    /** "(6 to 12 since the exchange was made)": each of them counts what it names, once. */
    private static void countsSinceTheExchangeWasMade() {
        RotaryExchange x = new RotaryExchange();
        int[] want = new int[7];
        x.lift(5);
        want[0]++;
        counts(x, "lifted", want);
        D.waitFor(x, 5, 2);
        want[1]++;
        counts(x, "READY", want);
        x.dial(5, 1);
        x.dial(5, 2);
        D.waitFor(x, 5, RINGING);
        want[2]++;
        counts(x, "CALLING", want);
        x.lift(1);
        x.tick(1);
        want[3]++;
        counts(x, "THROUGH", want);
        x.hang(1);
        x.lift(1);
        x.hang(1);
        x.tick(10);
        counts(x, "cleared", want);
        x.hang(5);
        D.bring(x, BUSY);
        want[0]++;
        want[1]++;
        want[4]++;
        counts(x, "BUSY", want);
        x.hang(5);
        D.bring(x, VACANT);
        want[0]++;
        want[1]++;
        want[5]++;
        counts(x, "VACANT", want);
        x.hang(5);
        D.bring(x, HOWLING);
        want[0]++;
        want[1]++;
        want[6]++;
        counts(x, "given up", want);
    }

    private static void counts(RotaryExchange x, String when, int[] want) {
        for (int i = 0; i < want.length; i++) {
            D.due(when + ": count(" + (6 + i) + ")", x.count(6 + i), want[i]);
        }
    }

    /** "NONE if the line is neither RUNG nor CALLED" */
    private static void traceInEveryState() {
        for (int state = 0; state <= HOWLING; state++) {
            RotaryExchange x = new RotaryExchange();
            D.bring(x, state);
            boolean called = state == RUNG || state == CALLED;
            D.due("trace(5, 0) while " + state, x.trace(5, 0), called ? 0 : -6);
            D.due("trace(5, 1) while " + state, x.trace(5, 1), called ? 0 : -6);
            D.due("trace(5, 2) while " + state, x.trace(5, 2), called ? 1 : -6);
            D.due("trace(5, 3) while " + state, x.trace(5, 3), -2);
            D.due("trace(5, -1) while " + state, x.trace(5, -1), -2);
        }
    }

    /** The last connector, the last finder and the last line can be traced, too, whether the called line is lifted or not. */
    private static void traceWhileOnTheHookAndLifted() {
        RotaryExchange x = new RotaryExchange();
        x.setUp(4, 3);
        x.set(0, 200);
        x.set(1, 200);
        for (int line = 0; line < 3; line++) {
            D.bringTone(x, line);
            x.dial(line, 4);
            x.tick(7);
        }
        x.hang(2);
        D.bringRinging(x, 15, 14);
        int[] want = {2, 3, 15};
        for (int step = 0; step < 5; step++) {
            for (int what = 0; what < 3; what++) {
                D.due("step " + step + ": trace(14, " + what + ")", x.trace(14, what), want[what]);
            }
            if (step % 2 == 0) {
                x.lift(14);
            } else {
                x.tick(1);
                x.hang(14);
            }
        }
    }
}
