import java.util.stream.IntStream;
import java.util.stream.Stream;

/** What the tests share: it notes every answer that is not the one that is due, and brings calls about. */
final class Due {
    private final String test;
    private int wrong = 0;
    private int answers = 0;

    Due(String test) {
        this.test = test;
    }

    void due(String call, long got, long want) {
        answers++;
        if (got != want) {
            wrong++;
            System.out.println(test + ": " + call + " answered " + got + ", due is " + want);
        }
    }

    void due(String what, boolean holds) {
        due(what, holds ? 1 : 0, 1);
    }

    void same(String what, int[] got, int[] want) {
        due(what + ": numbers", got.length, want.length);
        for (int i = 0; i < Math.min(got.length, want.length); i++) {
            due(what + ": number " + i, got[i], want[i]);
        }
    }

    /** The numbers about a line, from 0 on. */
    void line(String when, RotaryExchange x, int line, int... want) {
        for (int what = 0; what < want.length; what++) {
            due(when + ": line(" + line + ", " + what + ")", x.line(line, what), want[what]);
        }
    }

    /** The numbers about a finder, from 0 on. */
    void finder(String when, RotaryExchange x, int finder, int... want) {
        for (int what = 0; what < want.length; what++) {
            due(when + ": finder(" + finder + ", " + what + ")", x.finder(finder, what), want[what]);
        }
    }

    /** Ends the test, with exit code 1 if an answer was wrong. */
    void end() {
        System.out.println(test + ": " + answers + " answers, " + wrong + " wrong");
        if (wrong != 0) {
            System.exit(1);
        }
    }

    /** All that can be asked about an exchange without its pad and slots: some 200 calls of the 512. */
    static int[] everything(RotaryExchange x) {
        IntStream counts = IntStream.range(0, 20).filter(what -> what != 14).map(x::count);
        IntStream lines = IntStream.range(0, 16 * 9).map(i -> x.line(i / 9, i % 9));
        IntStream finders = IntStream.range(0, x.count(1) * 8).map(i -> x.finder(i / 8, i % 8));
        int connectors = x.count(2);
        IntStream holders = IntStream.range(0, 4 * connectors).map(i -> x.connector(1 + i / connectors, i % connectors));
        return Stream.of(counts, lines, finders, holders).flatMapToInt(row -> row).toArray();
    }

    /** A text of at most 8 characters as put() takes it. */
    static long packed(String text) {
        long characters = 0;
        for (char c : text.toCharArray()) {
            characters = characters << 8 | c;
        }
        return characters;
    }

    /** Puts a whole text, of any length, on the pad; returns the answer of the last put. */
    static int put(RotaryExchange x, String text) {
        int answer = 0;
        for (int begin = 0; begin < text.length(); begin += 8) {
            answer = x.put(packed(text.substring(begin, Math.min(text.length(), begin + 8))));
        }
        return answer;
    }

    static void dialAll(RotaryExchange x, int line, int... digits) {
        for (int digit : digits) {
            x.dial(line, digit);
        }
    }

    /** Lifts a line and waits for the tone. */
    void bringTone(RotaryExchange x, int line) {
        due("lift(" + line + ")", x.lift(line), RotaryExchange.WAITING);
        waitFor(x, line, RotaryExchange.TONE);
    }

    /** Lifts a line, dials the digits of another, and waits until it rings. */
    void bringRinging(RotaryExchange x, int from, int to) {
        bringTone(x, from);
        x.dial(from, to / 4 + 1);
        x.dial(from, to % 4 + 1);
        waitFor(x, from, RotaryExchange.RINGING);
    }

    /** Brings about a conversation. */
    void bringTalking(RotaryExchange x, int from, int to) {
        bringRinging(x, from, to);
        due("lift(" + to + ")", x.lift(to), RotaryExchange.RUNG);
        x.tick(1);
        due("line(" + from + ", 0)", x.line(from, 0), RotaryExchange.TALKING);
    }

    /** Brings the line 5 into a state; in a call, the line 1 is the other one. */
    void bring(RotaryExchange x, int state) {
        switch (state) {
            case RotaryExchange.IDLE:
                break;
            case RotaryExchange.WAITING:
                x.lift(5);
                break;
            case RotaryExchange.RINGING:
                bringRinging(x, 5, 1);
                break;
            case RotaryExchange.RUNG:
                bringRinging(x, 1, 5);
                break;
            case RotaryExchange.TALKING:
                bringTalking(x, 5, 1);
                break;
            case RotaryExchange.CALLED:
                bringTalking(x, 1, 5);
                break;
            default:
                bringWithTone(x, state);
                break;
        }
        due("state of line 5", x.line(5, 0), state);
    }

    private void bringWithTone(RotaryExchange x, int state) {
        bringTone(x, 5);
        if (state == RotaryExchange.DIALING || state == RotaryExchange.VACANT) {
            x.dial(5, 9);
        } else if (state == RotaryExchange.BUSY) {
            x.dial(5, 2);
            x.dial(5, 2);
        }
        waitFor(x, 5, state);
    }

    /** Makes ticks until a time. */
    static void passTo(RotaryExchange x, int time) {
        int now = x.count(0);
        while (now >= 0 && now < time) {
            now = x.tick(Math.min(1000, time - now));
        }
    }

    void waitFor(RotaryExchange x, int line, int state) {
        for (int i = 0; i < 600 && x.line(line, 0) != state; i++) {
            x.tick(1);
        }
        due("line(" + line + ", 0)", x.line(line, 0), state);
    }
}
