/** Promises 19 and 20: save, restore. */
public final class SavingTest {
    private static final Due D = new Due("SavingTest");

    public static void main(String[] args) {
        savesEverything();
        overwritesAndKeeps();
        slotsAreApart();
        theAllotterToo();
        theOrderOfLiftsToo();
        refuses();
        D.end();
    }

    private static void savesEverything() {
        RotaryExchange x = new RotaryExchange();
        x.setUp(4, 3);
        x.set(2, 3);
        D.bringTalking(x, 3, 9);
        x.hang(9);
        x.tick(3);
        x.lift(1);
        x.lift(0);
        x.tick(2);
        Due.put(x, "l7");
        int[] before = Due.everything(x);
        D.due("save(1)", x.save(1), before[0]);
        x.setUp(1, 1);
        x.set(2, 50);
        x.lift(5);
        x.tick(9);
        D.due("restore(1)", x.restore(1), before[0]);
        D.same("restore(1)", Due.everything(x), before);
        D.due("count(14)", x.count(14), 2);
        x.wipe();
        x.restore(1);
        D.due("count(14)", x.count(14), 0);
    }

    private static void overwritesAndKeeps() {
        RotaryExchange x = new RotaryExchange();
        x.tick(3);
        D.due("save(0)", x.save(0), 3);
        x.tick(4);
        D.due("restore(0)", x.restore(0), 3);
        x.tick(1);
        D.due("restore(0)", x.restore(0), 3);
        x.tick(9);
        D.due("save(0)", x.save(0), 12);
        x.lift(2);
        D.due("restore(0)", x.restore(0), 12);
        D.due("line(2, 0)", x.line(2, 0), 0);
        D.due("restore(1)", x.restore(1), -5);
    }

    private static void slotsAreApart() {
        RotaryExchange x = new RotaryExchange();
        x.lift(0);
        D.due("save(0)", x.save(0), 0);
        x.tick(1);
        x.lift(1);
        D.due("save(1)", x.save(1), 1);
        D.due("restore(0)", x.restore(0), 0);
        D.due("line(1, 0)", x.line(1, 0), 0);
        x.attempt(3, 4, 0);
        x.until(0, 11, 1000);
        D.due("restore(1)", x.restore(1), 1);
        D.due("line(1, 0)", x.line(1, 0), 1);
        D.due("restore(0)", x.restore(0), 0);
        D.due("line(0, 2)", x.line(0, 2), -6);
    }

    private static void theAllotterToo() {
        RotaryExchange x = new RotaryExchange();
        x.save(0);
        x.lift(0);
        x.tick(1);
        x.hang(0);
        x.save(1);
        x.lift(0);
        x.tick(1);
        D.due("line(0, 2)", x.line(0, 2), 1);
        x.restore(0);
        x.lift(0);
        x.tick(1);
        D.due("line(0, 2)", x.line(0, 2), 0);
        x.restore(1);
        x.lift(0);
        x.tick(1);
        D.due("line(0, 2)", x.line(0, 2), 1);
    }

    private static void theOrderOfLiftsToo() {
        RotaryExchange x = new RotaryExchange();
        x.lift(4);
        x.lift(2);
        x.save(0);
        x.setUp(2, 1);
        x.lift(2);
        x.restore(0);
        x.lift(0);
        D.due("line(4, 7)", x.line(4, 7), 0);
        D.due("line(2, 7)", x.line(2, 7), 1);
        D.due("line(0, 7)", x.line(0, 7), 2);
    }

    private static void refuses() {
        RotaryExchange x = new RotaryExchange();
        for (int slot : new int[] {-1, 2, Integer.MIN_VALUE, Integer.MAX_VALUE}) {
            D.due("save(" + slot + ")", x.save(slot), -2);
            D.due("restore(" + slot + ")", x.restore(slot), -2);
        }
        D.due("restore(0)", x.restore(0), -5);
    }
}
