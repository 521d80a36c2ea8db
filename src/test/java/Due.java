/** What the tests share: it notes every answer that is not the one that is due, and brings calls about. */
final class Due {
    private final String test;
    private int wrong = 0;
    private int answers = 0;

    Due(String test) {
        this.test = test;
    }

    void due(String call, long got, long want) {
        answers++;
        if (got != want) {
            wrong++;
            System.out.println(test + ": " + call + " answered " + got + ", due is " + want);
        }
    }

    void due(String what, boolean holds) {
        due(what, holds ? 1 : 0, 1);
    }

    /** Ends the test, with exit code 1 if an answer was wrong. */
    void end() {
        System.out.println(test + ": " + answers + " answers, " + wrong + " wrong");
        if (wrong != 0) {
            System.exit(1);
        }
    }

    /** Puts a whole text, of any length, on the pad; returns the answer of the last put. */
    static int put(RotaryExchange x, String text) {
        int answer = 0;
        for (int begin = 0; begin < text.length(); begin += 8) {
            long characters = 0;
            for (char c : text.substring(begin, Math.min(text.length(), begin + 8)).toCharArray()) {
                characters = characters << 8 | c;
            }
            answer = x.put(characters);
        }
        return answer;
    }

    /** Lifts a line and waits for the tone. */
    void bringTone(RotaryExchange x, int line) {
        due("lift(" + line + ")", x.lift(line), RotaryExchange.WAITING);
        waitFor(x, line, RotaryExchange.TONE);
    }

    /** Lifts a line, dials the digits of another, and waits until it rings. */
    void bringRinging(RotaryExchange x, int from, int to) {
        bringTone(x, from);
        x.dial(from, to / 4 + 1);
        x.dial(from, to % 4 + 1);
        waitFor(x, from, RotaryExchange.RINGING);
    }

    /** Brings about a conversation. */
    void bringTalking(RotaryExchange x, int from, int to) {
        bringRinging(x, from, to);
        due("lift(" + to + ")", x.lift(to), RotaryExchange.RUNG);
        x.tick(1);
        due("line(" + from + ", 0)", x.line(from, 0), RotaryExchange.TALKING);
    }

    void waitFor(RotaryExchange x, int line, int state) {
        for (int i = 0; i < 600 && x.line(line, 0) != state; i++) {
            x.tick(1);
        }
        due("line(" + line + ", 0)", x.line(line, 0), state);
    }
}
