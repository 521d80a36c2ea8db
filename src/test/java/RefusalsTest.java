import java.util.function.Consumer;
import java.util.function.Supplier;

/**
 * The conventions, for all promises: the errors of each method and their order, a call that returns an
 * error changes nothing, and NONE is returned only if no error applies.
 */
public final class RefusalsTest {
    private static final Due D = new Due("RefusalsTest");
    private static final int MIN = Integer.MIN_VALUE, MAX = Integer.MAX_VALUE;
    private static final String FULL_PAD = "l0,h0,l0,h0,l0,h0,l0,h0,l0,h0,l0,h0,l0,h0,l0,h0,l0,h0,l0,t10";

    public static void main(String[] args) {
        changesNothing("a new object", RotaryExchange::new, x -> { });
        changesNothing("a busy exchange", RefusalsTest::busyExchange, RefusalsTest::refuseInABusyExchange);
        changesNothing("the last time", RefusalsTest::atTheLastTime, RefusalsTest::refuseAtTheLastTime);
        changesNothing("a full pad", RefusalsTest::withAFullPad, RefusalsTest::refuseWithAFullPad);
        noSuchBeforeAllOthers();
        badValueBeforeNotPossible();
        badValueBeforeTooMany();
        notPossibleBeforeTooMany();
        noneOnlyWithoutAnError();
        D.end();
    }

    /** "A call that returns an error changes nothing": neither what can be asked, nor what comes of it later. */
    private static void changesNothing(String where, Supplier<RotaryExchange> maker, Consumer<RotaryExchange> ownRefusals) {
        RotaryExchange refused = maker.get();
        refuseEverywhere(refused);
        ownRefusals.accept(refused);
        RotaryExchange twin = maker.get();
        D.due(where + ": fault()", refused.fault(), twin.fault());
        D.due(where + ": count(14)", refused.count(14), twin.count(14));
        D.same(where, Due.everything(refused), Due.everything(twin));
        RotaryExchange refusedLater = maker.get();
        refuseEverywhere(refusedLater);
        ownRefusals.accept(refusedLater);
        RotaryExchange twinLater = maker.get();
        goOn(where, refusedLater, twinLater);
        D.same(where + ", later", Due.everything(refusedLater), Due.everything(twinLater));
    }

    private static void goOn(String where, RotaryExchange x, RotaryExchange twin) {
        D.due(where + ": carryOut()", x.carryOut(), twin.carryOut());
        D.due(where + ": wipe()", x.wipe(), twin.wipe());
        D.due(where + ": lift(14)", x.lift(14), twin.lift(14));
        D.due(where + ": lift(13)", x.lift(13), twin.lift(13));
        D.due(where + ": tick(40)", x.tick(40), twin.tick(40));
        D.due(where + ": restore(0)", x.restore(0), twin.restore(0));
        D.due(where + ": restore(1)", x.restore(1), twin.restore(1));
        D.due(where + ": tick(25)", x.tick(25), twin.tick(25));
    }

    /** What is refused in every state. */
    private static void refuseEverywhere(RotaryExchange x) {
        int[][] settings = {{-1, 1}, {5, 1}, {MIN, 1}, {MAX, 1}, {0, 0}, {0, 201}, {1, 0}, {1, 201}, {2, 0}, {2, 101}, {3, 0}, {3, 101},
            {4, 0}, {4, 201}, {0, MIN}, {4, MAX}};
        for (int[] pair : settings) {
            D.due("set(" + pair[0] + ", " + pair[1] + ")", x.set(pair[0], pair[1]), -2);
        }
        int[][] sizes = {{0, 1}, {5, 1}, {1, 0}, {1, 4}, {MIN, 1}, {1, MAX}, {0, 0}};
        for (int[] pair : sizes) {
            D.due("setUp(" + pair[0] + ", " + pair[1] + ")", x.setUp(pair[0], pair[1]), -2);
        }
        for (int slot : new int[] {-1, 2, MIN, MAX}) {
            D.due("save(" + slot + ")", x.save(slot), -2);
            D.due("restore(" + slot + ")", x.restore(slot), -2);
        }
        for (int ticks : new int[] {0, -1, 1001, MIN, MAX}) {
            D.due("tick(" + ticks + ")", x.tick(ticks), -2);
        }
        for (long characters : new long[] {0, 32, 127, 0x6c0030L, 0x2020L, -1, Long.MIN_VALUE}) {
            D.due("put(" + characters + ")", x.put(characters), -2);
        }
        refuseNumbers(x);
    }

    private static void refuseNumbers(RotaryExchange x) {
        for (int line : new int[] {-1, 16, MIN, MAX}) {
            D.due("lift(" + line + ")", x.lift(line), -1);
            D.due("hang(" + line + ")", x.hang(line), -1);
            D.due("dial(" + line + ", 1)", x.dial(line, 1), -1);
            D.due("line(" + line + ", 0)", x.line(line, 0), -1);
            D.due("trace(" + line + ", 0)", x.trace(line, 0), -1);
            D.due("until(" + line + ", 0, 0)", x.until(line, 0, 0), -1);
            D.due("attempt(" + line + ", 0, 0)", x.attempt(line, 0, 0), -1);
            D.due("attempt(0, " + line + ", 0)", x.attempt(0, line, 0), -1);
        }
        D.due("dial(0, -1)", x.dial(0, -1), -2);
        D.due("dial(0, 10)", x.dial(0, 10), -2);
        D.due("line(0, -1)", x.line(0, -1), -2);
        D.due("line(0, 9)", x.line(0, 9), -2);
        D.due("finder(-1, 0)", x.finder(-1, 0), -1);
        D.due("finder(4, 0)", x.finder(4, 0), -1);
        D.due("finder(0, -1)", x.finder(0, -1), -2);
        D.due("finder(0, 8)", x.finder(0, 8), -2);
        D.due("connector(0, 0)", x.connector(0, 0), -1);
        D.due("connector(5, 0)", x.connector(5, 0), -1);
        D.due("connector(1, -1)", x.connector(1, -1), -1);
        D.due("connector(1, 3)", x.connector(1, 3), -1);
        D.due("count(-1)", x.count(-1), -2);
        D.due("count(20)", x.count(20), -2);
        D.due("trace(0, -1)", x.trace(0, -1), -2);
        D.due("trace(0, 3)", x.trace(0, 3), -2);
        D.due("until(0, -1, 0)", x.until(0, -1, 0), -2);
        D.due("until(0, 12, 0)", x.until(0, 12, 0), -2);
        D.due("until(0, 0, -1)", x.until(0, 0, -1), -2);
        D.due("until(0, 0, 1001)", x.until(0, 0, 1001), -2);
        D.due("attempt(0, 0, -1)", x.attempt(0, 0, -1), -2);
        D.due("attempt(0, 0, 2)", x.attempt(0, 0, 2), -2);
    }

    /** The line 1 is rung by 5, the line 2 talks with 6, which is on the hook; 8 has four digits; 9, 10 and 11 wait. */
    private static RotaryExchange busyExchange() {
        RotaryExchange x = new RotaryExchange();
        x.setUp(3, 2);
        x.set(0, 90);
        x.set(3, 100);
        Due.put(x, "l5,l2,t8,d512,d223,t8,l6,t1,h6,t2,l8");
        D.due("carryOut()", x.carryOut(), 11);
        Due.put(x, "t10,d80123,l9,lb,la,t1");
        D.due("carryOut()", x.carryOut(), 6);
        x.dial(8, 4);
        x.save(0);
        x.tick(3);
        Due.put(x, "l7,t201");
        return x;
    }

    private static void refuseInABusyExchange(RotaryExchange x) {
        for (int line : new int[] {5, 2, 8, 9, 10, 11}) {
            D.due("lift(" + line + ")", x.lift(line), -5);
            D.due("attempt(" + line + ", 0, 0)", x.attempt(line, 0, 0), -5);
        }
        for (int line : new int[] {0, 1, 6, 15}) {
            D.due("hang(" + line + ")", x.hang(line), -5);
        }
        for (int line : new int[] {0, 1, 2, 5, 6, 9, 10, 11}) {
            D.due("dial(" + line + ", 1)", x.dial(line, 1), -5);
        }
        D.due("dial(8, 1)", x.dial(8, 1), -4);
        D.due("attempt(1, 0, 0)", x.attempt(1, 0, 0), -5);
        D.due("attempt(6, 0, 0)", x.attempt(6, 0, 0), -5);
        D.due("carryOut()", x.carryOut(), -3);
        D.due("restore(1)", x.restore(1), -5);
    }

    private static RotaryExchange atTheLastTime() {
        RotaryExchange x = new RotaryExchange();
        Due.passTo(x, 99998);
        x.save(0);
        x.lift(3);
        x.tick(1);
        return x;
    }

    private static void refuseAtTheLastTime(RotaryExchange x) {
        for (int ticks : new int[] {2, 3, 999, 1000}) {
            D.due("tick(" + ticks + ")", x.tick(ticks), -5);
        }
        D.due("carryOut()", x.carryOut(), -3);
    }

    private static RotaryExchange withAFullPad() {
        RotaryExchange x = new RotaryExchange();
        x.lift(0);
        x.tick(1);
        D.due("put", Due.put(x, FULL_PAD), 60);
        return x;
    }

    private static void refuseWithAFullPad(RotaryExchange x) {
        D.due("put(0)", x.put(Due.packed("0")), -4);
        D.due("put(,h0)", x.put(Due.packed(",h0")), -4);
        D.due("put(8 characters)", x.put(Due.packed(",h0,l0,t")), -4);
    }

    private static void noSuchBeforeAllOthers() {
        RotaryExchange x = new RotaryExchange();
        x.lift(3);
        D.due("dial(16, 10)", x.dial(16, 10), -1);
        D.due("line(16, 9)", x.line(16, 9), -1);
        D.due("finder(2, 8)", x.finder(2, 8), -1);
        D.due("trace(16, 3)", x.trace(16, 3), -1);
        D.due("until(16, 12, 1001)", x.until(16, 12, 1001), -1);
        D.due("attempt(16, 0, 2)", x.attempt(16, 0, 2), -1);
        D.due("attempt(0, 16, 2)", x.attempt(0, 16, 2), -1);
        D.due("attempt(3, 16, 2)", x.attempt(3, 16, 2), -1);
        D.due("attempt(3, 16, 0)", x.attempt(3, 16, 0), -1);
    }

    private static void badValueBeforeNotPossible() {
        RotaryExchange x = atTheLastTime();
        D.due("tick(1001)", x.tick(1001), -2);
        D.due("dial(0, 10)", x.dial(0, 10), -2);
        D.due("attempt(3, 0, 2)", x.attempt(3, 0, 2), -2);
        D.due("restore(2)", x.restore(2), -2);
    }

    private static void badValueBeforeTooMany() {
        RotaryExchange x = withAFullPad();
        D.due("put(32)", x.put(32), -2);
        D.due("put(0)", x.put(0), -2);
        x.tick(1);
        for (int i = 0; i < 4; i++) {
            x.dial(0, 9);
        }
        D.due("dial(0, 10)", x.dial(0, 10), -2);
        D.due("dial(0, 9)", x.dial(0, 9), -4);
    }

    /** A VACANT line keeps its four digits, but cannot dial. */
    private static void notPossibleBeforeTooMany() {
        RotaryExchange x = new RotaryExchange();
        D.bringTone(x, 0);
        x.dial(0, 5);
        x.tick(1);
        for (int i = 0; i < 4; i++) {
            x.dial(0, 9);
        }
        D.due("dial(0, 9)", x.dial(0, 9), -4);
        x.tick(5);
        D.due("line(0, 0)", x.line(0, 0), 9);
        D.due("line(0, 4)", x.line(0, 4), 4);
        D.due("dial(0, 9)", x.dial(0, 9), -5);
    }

    private static void noneOnlyWithoutAnError() {
        RotaryExchange x = new RotaryExchange();
        D.due("trace(0, 0)", x.trace(0, 0), -6);
        D.due("trace(0, 3)", x.trace(0, 3), -2);
        D.due("until(0, 1, 0)", x.until(0, 1, 0), -6);
        D.due("until(0, 1, -1)", x.until(0, 1, -1), -2);
        D.due("until(0, 12, 0)", x.until(0, 12, 0), -2);
        D.due("connector(1, 0)", x.connector(1, 0), -6);
        D.due("connector(1, 1)", x.connector(1, 1), -1);
        D.due("line(0, 2)", x.line(0, 2), -6);
        D.due("line(16, 2)", x.line(16, 2), -1);
        D.due("finder(0, 2)", x.finder(0, 2), -6);
        D.due("finder(2, 2)", x.finder(2, 2), -1);
    }
}
