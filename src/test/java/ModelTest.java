import java.util.Random;

/** Long runs of calls, of all promises mixed, on the program and on the model; their answers must agree. */
public final class ModelTest {
    private static final Due D = new Due("ModelTest");
    private static final int RUNS = 1500;
    private static final int CALLS = 512;

    private final Random random;
    private final RotaryExchange x = new RotaryExchange();
    private final Model m = new Model();
    private final int run;

    private ModelTest(int run) {
        this.run = run;
        this.random = new Random(run);
    }

    public static void main(String[] args) {
        for (int run = 0; run < RUNS; run++) {
            ModelTest test = new ModelTest(run);
            for (int call = 0; call < CALLS; call++) {
                test.call(call);
            }
        }
        D.end();
    }

    private int below(int bound) {
        return random.nextInt(bound);
    }

    /** Mostly a number from least to most, now and then one beside them. */
    private int about(int least, int most) {
        int dice = below(60);
        if (dice == 0) {
            return least - 1;
        }
        if (dice == 1) {
            return most + 1;
        }
        return dice == 2 ? random.nextInt() : least + below(most - least + 1);
    }

    /** In two of three runs mostly one of a few lines, so that they come in each other's way. */
    private int someLine() {
        return run % 3 == 0 || below(10) == 0 ? about(0, 15) : below(5);
    }

    /** Mostly a digit that leads to one of these lines. */
    private int someDigit() {
        if (below(8) == 0) {
            return about(0, 9);
        }
        return 1 + below(run % 3 == 0 ? 4 : 2);
    }

    private void agree(int call, String name, int got, int want) {
        D.due("run " + run + ", call " + call + ": " + name, got, want);
    }

    private void call(int call) {
        if (call == 0 && run % 4 != 0) {
            setUp(call);
        } else if (below(100) < 45) {
            act(call);
        } else if (below(100) < 70) {
            ask(call);
        } else if (below(100) < 60) {
            whatIf(call);
        } else if (below(100) < 60) {
            text(call);
        } else if (below(100) < 50) {
            slot(call);
        } else {
            change(call);
        }
    }

    private void setUp(int call) {
        int finders = about(1, 4);
        int connectors = about(1, 3);
        agree(call, "setUp(" + finders + ", " + connectors + ")", x.setUp(finders, connectors), m.setUp(finders, connectors));
    }

    private void change(int call) {
        if (below(12) == 0) {
            setUp(call);
            return;
        }
        int setting = about(0, 4);
        int value = below(3) == 0 ? about(1, setting == 2 || setting == 3 ? 100 : 200) : about(1, 25);
        agree(call, "set(" + setting + ", " + value + ")", x.set(setting, value), m.set(setting, value));
    }

    /** Does what somebody at a line would do, often enough for conversations to come about. */
    private void act(int call) {
        int line = someLine();
        int state = m.line(line, 0);
        int dice = below(10);
        if (dice < 4) {
            int ticks = below(8) == 0 ? about(1, run % 10 == 0 ? 1000 : 60) : 1 + below(9);
            agree(call, "tick(" + ticks + ")", x.tick(ticks), m.tick(ticks));
        } else if (state == 2 || state == 3 ? dice < 9 : dice == 4) {
            int digit = someDigit();
            agree(call, "dial(" + line + ", " + digit + ")", x.dial(line, digit), m.dial(line, digit));
        } else if (m.line(line, 1) == 1 ? below(6) == 0 : below(8) != 0) {
            if (m.line(line, 1) == 1) {
                agree(call, "hang(" + line + ")", x.hang(line), m.hang(line));
            } else {
                agree(call, "lift(" + line + ")", x.lift(line), m.lift(line));
            }
        } else if (below(4) == 0) {
            agree(call, "lift(" + line + ")", x.lift(line), m.lift(line));
        } else {
            answer(call);
        }
    }

    /** Lifts a line that is rung, or hangs one that is called. */
    private void answer(int call) {
        for (int line = 0; line < 16; line++) {
            if (m.line(line, 0) == 5 || m.line(line, 0) == 7 && below(3) == 0) {
                if (m.line(line, 1) == 0) {
                    agree(call, "lift(" + line + ")", x.lift(line), m.lift(line));
                } else {
                    agree(call, "hang(" + line + ")", x.hang(line), m.hang(line));
                }
                return;
            }
        }
        agree(call, "tick(1)", x.tick(1), m.tick(1));
    }

    private void ask(int call) {
        int what;
        switch (below(5)) {
            case 0:
                int line = someLine();
                what = about(0, 8);
                agree(call, "line(" + line + ", " + what + ")", x.line(line, what), m.line(line, what));
                break;
            case 1:
                int finder = about(0, 3);
                what = about(0, 7);
                agree(call, "finder(" + finder + ", " + what + ")", x.finder(finder, what), m.finder(finder, what));
                break;
            case 2:
                int level = about(1, 4);
                int connector = about(0, 2);
                agree(call, "connector(" + level + ", " + connector + ")", x.connector(level, connector), m.connector(level, connector));
                break;
            case 3:
                what = about(0, 19);
                agree(call, "count(" + what + ")", x.count(what), m.count(what));
                break;
            default:
                int called = about(0, 15);
                for (int i = 0; i < 16 && m.trace(called, 0) == -6; i++) {
                    called = i;
                }
                what = about(0, 2);
                agree(call, "trace(" + called + ", " + what + ")", x.trace(called, what), m.trace(called, what));
                break;
        }
    }

    private void whatIf(int call) {
        int line = someLine();
        if (below(2) == 0) {
            int state = about(0, 11);
            int most = about(0, below(4) == 0 ? 1000 : 100);
            agree(call, "until(" + line + ", " + state + ", " + most + ")", x.until(line, state, most), m.until(line, state, most));
        } else {
            int to = someLine();
            int what = about(0, 1);
            agree(call, "attempt(" + line + ", " + to + ", " + what + ")", x.attempt(line, to, what), m.attempt(line, to, what));
        }
    }

    private void text(int call) {
        int dice = below(20);
        if (dice < 12) {
            long characters = characters();
            agree(call, "put(" + characters + ")", x.put(characters), m.put(characters));
        } else if (dice < 15) {
            agree(call, "fault() of " + m.pad, x.fault(), m.fault());
        } else if (dice < 19 && m.fault() == -6) {
            agree(call, "carryOut() of " + m.pad, x.carryOut(), m.carryOut());
        } else if (dice < 17) {
            agree(call, "carryOut() of " + m.pad, x.carryOut(), m.carryOut());
        } else if (dice == 17 || m.fault() < m.pad.length()) {
            agree(call, "wipe()", x.wipe(), m.wipe());
        }
    }

    /** Mostly acts that fit behind the pad. */
    private long characters() {
        if (below(25) == 0) {
            return below(2) == 0 ? random.nextLong() : random.nextLong() >>> 8 * below(8);
        }
        StringBuilder text = new StringBuilder(m.fault() == -6 ? "," : "");
        String line = Integer.toHexString(Math.floorMod(someLine(), 16));
        switch (below(4)) {
            case 0:
                text.append('l').append(line);
                break;
            case 1:
                text.append('h').append(line);
                break;
            case 2:
                text.append('d').append(line).append(1 + below(4)).append(below(3) == 0 ? below(10) : 1 + below(4));
                break;
            default:
                text.append('t').append(below(5) == 0 ? below(230) : 1 + below(20));
                break;
        }
        if (below(15) == 0) {
            text.setCharAt(below(text.length()), "lhdt,09afg!".charAt(below(11)));
        }
        long characters = 0;
        for (int i = 0; i < text.length(); i++) {
            characters = characters << 8 | text.charAt(i);
        }
        return characters;
    }

    private void slot(int call) {
        int slot = about(0, 1);
        if (below(3) != 0) {
            agree(call, "save(" + slot + ")", x.save(slot), m.save(slot));
        } else {
            agree(call, "restore(" + slot + ")", x.restore(slot), m.restore(slot));
        }
    }
}
