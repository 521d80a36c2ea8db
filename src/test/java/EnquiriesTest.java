/** Promises 8 to 12: line, finder, connector, count, trace. */
public final class EnquiriesTest {
    private static final Due D = new Due("EnquiriesTest");

    public static void main(String[] args) {
        aboutLines();
        aboutFinders();
        aboutConnectors();
        counts();
        traces();
        refusals();
        D.end();
    }

    private static void line(RotaryExchange x, int line, int... want) {
        for (int what = 0; what < want.length; what++) {
            D.due("line(" + line + ", " + what + ")", x.line(line, what), want[what]);
        }
    }

    private static void aboutLines() {
        RotaryExchange x = new RotaryExchange();
        x.lift(4);
        line(x, 4, 1, 1, -6, -6, 0, 0, 0, 0, 0);
        x.tick(1);
        line(x, 4, 1, 1, 0, -6, 0, 0, 0, -6, 0);
        x.tick(5);
        line(x, 4, 2, 1, 0, -6, 0, 0, 0, -6, 0);
        x.dial(4, 1);
        line(x, 4, 2, 1, 0, -6, 1, 0, 0, -6, 0);
        x.dial(4, 3);
        x.tick(1);
        line(x, 4, 3, 1, 0, -6, 1, 0, 0, -6, 0);
        x.tick(6);
        line(x, 4, 4, 1, 0, 2, 0, 0, 0, -6, 0);
        line(x, 2, 5, 0, 0, 4, 0, 0, 0, -6, 0);
        x.lift(2);
        line(x, 2, 5, 1, 0, 4, 0, 0, 0, -6, 0);
        x.tick(1);
        line(x, 4, 6, 1, 0, 2, 0, 1, 0, -6, 0);
        line(x, 2, 7, 1, 0, 4, 0, 0, 0, -6, 0);
        x.hang(4);
        line(x, 4, 0, 0, -6, -6, 0, 1, 0, -6, 0);
        line(x, 2, 10, 1, -6, -6, 0, 0, 6, -6, 0);
        x.tick(14);
        line(x, 2, 10, 1, -6, -6, 0, 0, 6, -6, 14);
        x.tick(1);
        line(x, 2, 11, 1, -6, -6, 0, 0, 6, -6, 0);
        D.bringTone(x, 0);
        x.dial(0, 8);
        x.tick(9);
        line(x, 0, 9, 1, 1, -6, 0, 0, 3, -6, 0);
    }

    private static void finder(RotaryExchange x, int finder, int... want) {
        for (int what = 0; what < want.length; what++) {
            D.due("finder(" + finder + ", " + what + ")", x.finder(finder, what), want[what]);
        }
    }

    private static void aboutFinders() {
        RotaryExchange x = new RotaryExchange();
        x.lift(4);
        x.tick(6);
        finder(x, 0, 2, 4, 4, 0, -6, 0, 0, 0);
        finder(x, 1, 0, 0, -6, 0, -6, 0, 0, 0);
        x.dial(4, 3);
        x.tick(2);
        finder(x, 0, 3, 4, 4, 1, -6, 2, 0, 0);
        x.tick(2);
        finder(x, 0, 4, 4, 4, 3, 0, 0, 0, 0);
        x.tick(3);
        finder(x, 0, 5, 4, 4, 3, 0, 0, 2, 0);
        x.dial(4, 2);
        x.tick(1);
        finder(x, 0, 6, 4, 4, 3, 0, 2, 0, 0);
        x.tick(5);
        finder(x, 0, 7, 4, 4, 3, 0, 0, 3, 0);
        x.lift(9);
        x.tick(3);
        x.hang(9);
        x.tick(4);
        finder(x, 0, 8, 4, 4, 3, 0, 0, 6, 4);
        x.hang(4);
        finder(x, 0, 0, 4, -6, 0, -6, 0, 0, 0);
    }

    private static void aboutConnectors() {
        RotaryExchange x = new RotaryExchange();
        x.setUp(2, 2);
        D.due("connector(1, 1)", x.connector(1, 1), -6);
        D.due("connector(1, 2)", x.connector(1, 2), -1);
        D.bringTone(x, 0);
        D.bringTone(x, 1);
        x.dial(1, 4);
        x.tick(6);
        x.dial(0, 4);
        x.tick(7);
        D.due("connector(4, 0)", x.connector(4, 0), 1);
        D.due("connector(4, 1)", x.connector(4, 1), 0);
        D.due("connector(3, 0)", x.connector(3, 0), -6);
        D.due("count(4)", x.count(4), 6);
        x.hang(1);
        D.due("connector(4, 0)", x.connector(4, 0), -6);
        D.due("connector(4, 1)", x.connector(4, 1), 0);
        x.dial(0, 7);
        x.tick(8);
        D.due("line(0, 0)", x.line(0, 0), 9);
        D.due("connector(4, 1)", x.connector(4, 1), -6);
    }

    private static void counts() {
        RotaryExchange x = new RotaryExchange();
        x.setUp(4, 3);
        x.set(0, 11);
        x.set(1, 12);
        x.set(2, 13);
        x.set(3, 14);
        x.set(4, 16);
        Due.put(x, "l0,h0");
        D.bringTalking(x, 0, 9);
        D.bringRinging(x, 1, 10);
        x.lift(2);
        int time = x.count(0);
        x.tick(1);
        int[] want = {time + 1, 4, 3, 1, 10, x.line(0, 5), 3, 2, 2, 1, 0, 0, 0, 4, 5, 11, 12, 13, 14, 16};
        for (int what = 0; what < want.length; what++) {
            D.due("count(" + what + ")", x.count(what), want[what]);
        }
        x.setUp(2, 1);
        D.bringTone(x, 0);
        D.bringTone(x, 1);
        x.dial(1, 1);
        x.dial(1, 1);
        D.waitFor(x, 1, RotaryExchange.BUSY);
        D.waitFor(x, 0, RotaryExchange.HOWLING);
        D.bringTone(x, 2);
        x.dial(2, 0);
        D.waitFor(x, 2, RotaryExchange.VACANT);
        int[] since = {3, 3, 0, 0, 1, 1, 1, 3};
        for (int i = 0; i < since.length; i++) {
            D.due("count(" + (6 + i) + ")", x.count(6 + i), since[i]);
        }
    }

    private static void traces() {
        RotaryExchange x = new RotaryExchange();
        x.setUp(3, 2);
        D.bringTalking(x, 3, 12);
        D.bringRinging(x, 6, 15);
        D.due("trace(12, 0)", x.trace(12, 0), 0);
        D.due("trace(12, 1)", x.trace(12, 1), 0);
        D.due("trace(12, 2)", x.trace(12, 2), 3);
        D.due("trace(15, 0)", x.trace(15, 0), 1);
        D.due("trace(15, 1)", x.trace(15, 1), 1);
        D.due("trace(15, 2)", x.trace(15, 2), 6);
        for (int line : new int[] {0, 3, 6}) {
            for (int what = 0; what < 3; what++) {
                D.due("trace(" + line + ", " + what + ")", x.trace(line, what), -6);
            }
        }
        x.hang(12);
        D.due("trace(12, 2)", x.trace(12, 2), 3);
        x.hang(3);
        D.due("trace(12, 2)", x.trace(12, 2), -6);
    }

    private static void refusals() {
        RotaryExchange x = new RotaryExchange();
        int[] noLines = {-1, 16, Integer.MIN_VALUE, Integer.MAX_VALUE};
        for (int line : noLines) {
            D.due("line(" + line + ", 9)", x.line(line, 9), -1);
            D.due("trace(" + line + ", 3)", x.trace(line, 3), -1);
        }
        for (int what : new int[] {-1, 9, Integer.MIN_VALUE, Integer.MAX_VALUE}) {
            D.due("line(0, " + what + ")", x.line(0, what), -2);
            D.due("finder(0, " + what + ")", x.finder(0, what), -2);
            D.due("trace(0, " + what + ")", x.trace(0, what), -2);
        }
        D.due("finder(0, 8)", x.finder(0, 8), -2);
        D.due("trace(0, 3)", x.trace(0, 3), -2);
        for (int what : new int[] {-1, 20, Integer.MIN_VALUE, Integer.MAX_VALUE}) {
            D.due("count(" + what + ")", x.count(what), -2);
        }
        for (int finder : new int[] {-1, 2, Integer.MIN_VALUE, Integer.MAX_VALUE}) {
            D.due("finder(" + finder + ", 8)", x.finder(finder, 8), -1);
        }
        for (int level : new int[] {-1, 0, 5, Integer.MIN_VALUE, Integer.MAX_VALUE}) {
            D.due("connector(" + level + ", 0)", x.connector(level, 0), -1);
        }
        for (int connector : new int[] {-1, 1, Integer.MIN_VALUE, Integer.MAX_VALUE}) {
            D.due("connector(1, " + connector + ")", x.connector(1, connector), -1);
        }
    }
}
