/** Promises 4 to 7: lift, hang, dial, tick (without the steps of the finders, which are in TickTest). */
public final class ActsTest {
    private static final Due D = new Due("ActsTest");

    public static void main(String[] args) {
        liftFromIdle();
        liftOfACalledLine();
        hangWhileWaitingOrSought();
        hangOfTheCaller();
        hangBehindAnUnansweredCall();
        hangWithAFinderUsedBefore();
        hangOfTheCalled();
        hangOfAParkedLine();
        dialQueues();
        dialRefuses();
        tickCountsTime();
        tickRefuses();
        D.end();
    }

    private static void liftFromIdle() {
        RotaryExchange x = new RotaryExchange();
        D.due("lift(-1)", x.lift(-1), -1);
        D.due("lift(16)", x.lift(16), -1);
        D.due("lift(min)", x.lift(Integer.MIN_VALUE), -1);
        D.due("lift(15)", x.lift(15), 1);
        D.due("line(15, 1)", x.line(15, 1), 1);
        D.due("lift(15)", x.lift(15), -5);
        D.due("count(6)", x.count(6), 1);
        D.due("lift(0)", x.lift(0), 1);
        D.due("count(6)", x.count(6), 2);
        D.due("count(13)", x.count(13), 2);
    }

    private static void liftOfACalledLine() {
        RotaryExchange x = new RotaryExchange();
        D.bringRinging(x, 5, 1);
        D.due("lift(1)", x.lift(1), 5);
        D.due("count(6)", x.count(6), 1);
        D.due("lift(1)", x.lift(1), -5);
        D.due("hang(1)", x.hang(1), 5);
        D.due("line(1, 0)", x.line(1, 0), 5);
        D.due("line(1, 1)", x.line(1, 1), 0);
        D.due("lift(1)", x.lift(1), 5);
        x.tick(1);
        D.due("line(1, 0)", x.line(1, 0), 7);
        D.due("hang(1)", x.hang(1), 7);
        D.due("hang(1)", x.hang(1), -5);
        D.due("lift(1)", x.lift(1), 7);
        D.due("count(6)", x.count(6), 1);
        D.due("count(9)", x.count(9), 1);
    }

    private static void hangWhileWaitingOrSought() {
        RotaryExchange x = new RotaryExchange();
        D.due("hang(3)", x.hang(3), -5);
        D.due("hang(16)", x.hang(16), -1);
        D.due("hang(-1)", x.hang(-1), -1);
        x.lift(3);
        D.due("hang(3)", x.hang(3), 1);
        D.due("line(3, 0)", x.line(3, 0), 0);
        x.tick(1);
        D.due("finder(0, 0)", x.finder(0, 0), 0);
        x.lift(3);
        x.tick(3);
        D.due("finder(0, 0)", x.finder(0, 0), 1);
        D.due("hang(3)", x.hang(3), 1);
        D.due("finder(0, 0)", x.finder(0, 0), 0);
        D.due("finder(0, 1)", x.finder(0, 1), 2);
        D.due("finder(0, 2)", x.finder(0, 2), -6);
        D.due("line(3, 2)", x.line(3, 2), -6);
        D.bringTone(x, 7);
        x.dial(7, 2);
        x.dial(7, 3);
        D.due("hang(7)", x.hang(7), 2);
        D.due("line(7, 4)", x.line(7, 4), 0);
        D.due("count(3)", x.count(3), 2);
    }

    private static void hangOfTheCaller() {
        RotaryExchange x = new RotaryExchange();
        D.bringRinging(x, 5, 1);
        D.due("hang(5)", x.hang(5), 4);
        D.due("line(1, 0)", x.line(1, 0), 0);
        D.due("line(1, 6)", x.line(1, 6), 0);
        D.due("line(1, 2)", x.line(1, 2), -6);
        D.due("count(4)", x.count(4), 4);
        D.bringRinging(x, 5, 1);
        x.lift(1);
        D.due("hang(5)", x.hang(5), 4);
        D.due("line(1, 0)", x.line(1, 0), 10);
        D.due("line(1, 6)", x.line(1, 6), 6);
        D.due("line(1, 8)", x.line(1, 8), 0);
        D.due("hang(1)", x.hang(1), 10);
        D.bringTalking(x, 5, 1);
        D.due("hang(5)", x.hang(5), 6);
        D.due("line(1, 0)", x.line(1, 0), 10);
        D.due("line(1, 6)", x.line(1, 6), 6);
        D.due("line(5, 0)", x.line(5, 0), 0);
        D.due("line(5, 6)", x.line(5, 6), 0);
        D.due("hang(1)", x.hang(1), 10);
        D.due("line(1, 6)", x.line(1, 6), 6);
        D.bringTalking(x, 5, 1);
        x.hang(1);
        x.tick(3);
        D.due("hang(5)", x.hang(5), 6);
        D.due("line(1, 0)", x.line(1, 0), 0);
        D.due("line(1, 6)", x.line(1, 6), 6);
        D.due("connector(1, 0)", x.connector(1, 0), -6);
    }

    /** The line that did not answer is rung by another one meanwhile: this call is not the hung line's. */
    private static void hangBehindAnUnansweredCall() {
        RotaryExchange x = new RotaryExchange();
        x.set(0, 100);
        x.set(1, 3);
        D.bringRinging(x, 5, 1);
        D.waitFor(x, 5, RotaryExchange.BUSY);
        D.bringRinging(x, 6, 1);
        D.due("line(5, 3)", x.line(5, 3), -6);
        D.due("hang(5)", x.hang(5), 8);
        D.due("line(1, 0)", x.line(1, 0), 5);
        D.due("line(1, 3)", x.line(1, 3), 6);
        D.due("lift(1)", x.lift(1), 5);
        x.tick(1);
        D.due("line(6, 0)", x.line(6, 0), 6);
        D.due("connector(1, 0)", x.connector(1, 0), 1);
    }

    /** The finder of the line that is hung rang the line 1 in an earlier call; now another finder does. */
    private static void hangWithAFinderUsedBefore() {
        RotaryExchange x = new RotaryExchange();
        D.bringRinging(x, 5, 1);
        x.hang(5);
        D.bringRinging(x, 6, 1);
        D.due("line(6, 2)", x.line(6, 2), 1);
        x.lift(7);
        x.tick(1);
        D.due("line(7, 2)", x.line(7, 2), 0);
        D.due("hang(7)", x.hang(7), 1);
        D.due("line(1, 0)", x.line(1, 0), 5);
        D.due("line(1, 2)", x.line(1, 2), 1);
        x.lift(1);
        x.tick(1);
        x.lift(7);
        x.tick(1);
        D.due("line(7, 2)", x.line(7, 2), 0);
        x.hang(7);
        D.due("line(1, 0)", x.line(1, 0), 7);
        D.due("trace(1, 2)", x.trace(1, 2), 6);
    }

    private static void hangOfTheCalled() {
        RotaryExchange x = new RotaryExchange();
        D.bringTalking(x, 5, 1);
        D.due("hang(1)", x.hang(1), 7);
        D.due("line(1, 0)", x.line(1, 0), 7);
        D.due("line(5, 0)", x.line(5, 0), 6);
        D.due("line(1, 2)", x.line(1, 2), 0);
        D.due("line(1, 3)", x.line(1, 3), 5);
        D.due("finder(0, 0)", x.finder(0, 0), 8);
    }

    private static void hangOfAParkedLine() {
        RotaryExchange x = new RotaryExchange();
        x.lift(0);
        x.tick(25);
        D.due("line(0, 0)", x.line(0, 0), 10);
        D.due("line(0, 8)", x.line(0, 8), 4);
        D.due("hang(0)", x.hang(0), 10);
        D.due("line(0, 8)", x.line(0, 8), 0);
        D.due("line(0, 6)", x.line(0, 6), 5);
        x.lift(0);
        D.due("line(0, 6)", x.line(0, 6), 0);
        x.tick(60);
        D.due("hang(0)", x.hang(0), 11);
        D.due("line(0, 0)", x.line(0, 0), 0);
    }

    private static void dialQueues() {
        RotaryExchange x = new RotaryExchange();
        D.bringTone(x, 2);
        D.due("dial(2, 0)", x.dial(2, 0), 1);
        D.due("dial(2, 9)", x.dial(2, 9), 2);
        D.due("dial(2, 1)", x.dial(2, 1), 3);
        D.due("dial(2, 2)", x.dial(2, 2), 4);
        D.due("dial(2, 3)", x.dial(2, 3), -4);
        D.due("dial(2, 10)", x.dial(2, 10), -2);
        D.due("line(2, 4)", x.line(2, 4), 4);
        x.tick(1);
        D.due("line(2, 4)", x.line(2, 4), 3);
        D.due("finder(0, 5)", x.finder(0, 5), 10);
        D.due("dial(2, 3)", x.dial(2, 3), 4);
        x.tick(10);
        D.due("line(2, 0)", x.line(2, 0), 9);
        D.due("line(2, 4)", x.line(2, 4), 4);
        D.due("dial(2, 3)", x.dial(2, 3), -5);
        x.tick(20);
        D.due("line(2, 0)", x.line(2, 0), 10);
        D.due("line(2, 4)", x.line(2, 4), 0);
        inTheOrderDialed();
    }

    private static void inTheOrderDialed() {
        RotaryExchange x = new RotaryExchange();
        x.lift(0);
        x.tick(2);
        x.dial(0, 3);
        x.tick(1);
        D.due("finder(0, 5)", x.finder(0, 5), 3);
        x.dial(0, 4);
        x.dial(0, 8);
        D.due("dial(0, 7)", x.dial(0, 7), 3);
        x.tick(5);
        D.due("finder(0, 0)", x.finder(0, 0), 6);
        D.due("finder(0, 5)", x.finder(0, 5), 4);
        D.due("line(0, 4)", x.line(0, 4), 2);
        D.due("dial(0, 1)", x.dial(0, 1), 3);
    }

    private static void dialRefuses() {
        RotaryExchange x = new RotaryExchange();
        D.due("dial(16, 10)", x.dial(16, 10), -1);
        D.due("dial(-1, 1)", x.dial(-1, 1), -1);
        D.due("dial(0, -1)", x.dial(0, -1), -2);
        D.due("dial(0, 10)", x.dial(0, 10), -2);
        D.due("dial(0, 1)", x.dial(0, 1), -5);
        x.lift(0);
        D.due("dial(0, 1)", x.dial(0, 1), -5);
        x.hang(0);
        D.bringRinging(x, 5, 1);
        D.due("dial(5, 1)", x.dial(5, 1), -5);
        D.due("dial(1, 1)", x.dial(1, 1), -5);
        x.lift(1);
        x.tick(1);
        D.due("dial(5, 1)", x.dial(5, 1), -5);
        D.due("dial(1, 1)", x.dial(1, 1), -5);
        x.hang(5);
        D.due("dial(1, 1)", x.dial(1, 1), -5);
    }

    private static void tickCountsTime() {
        RotaryExchange x = new RotaryExchange();
        D.due("tick(1)", x.tick(1), 1);
        D.due("tick(1000)", x.tick(1000), 1001);
        for (int i = 0; i < 98; i++) {
            x.tick(1000);
        }
        D.due("tick(999)", x.tick(999), 100000);
        D.due("tick(1)", x.tick(1), -5);
        D.due("tick(0)", x.tick(0), -2);
        D.due("count(0)", x.count(0), 100000);
        D.due("setUp(2, 1)", x.setUp(2, 1), 2);
        D.due("tick(1)", x.tick(1), 1);
    }

    private static void tickRefuses() {
        RotaryExchange x = new RotaryExchange();
        for (int ticks : new int[] {0, -1, 1001, Integer.MIN_VALUE, Integer.MAX_VALUE}) {
            D.due("tick(" + ticks + ")", x.tick(ticks), -2);
        }
        for (int i = 0; i < 99; i++) {
            x.tick(1000);
        }
        x.tick(990);
        x.lift(0);
        D.due("tick(11)", x.tick(11), -5);
        D.due("line(0, 2)", x.line(0, 2), -6);
        D.due("tick(10)", x.tick(10), 100000);
    }
}
