/** The boundary cases of the promises 19 (save) and 20 (restore), a test for each sentence. */
public final class SavingBoundariesTest {
    private static final Due D = new Due("SavingBoundariesTest");

    public static void main(String[] args) {
        theSlots0And1();
        nothingSaved();
        eachFieldIsSaved();
        whatComesLaterIsSavedToo();
        savedAtEachTickOfACall();
        theNextFinderIsSavedToo();
        restoreIntoAnotherSize();
        overwritten();
        keptByRestore();
        thePadIsNotSaved();
        theSlotsAreNotSaved();
        savedAtTheEndsOfTime();
        savingChangesNothing();
        D.end();
    }

    /** "slot: 0 or 1", "BAD_VALUE if there is no such slot" */
    private static void theSlots0And1() {
        RotaryExchange x = new RotaryExchange();
        for (int slot : new int[] {-1, 2, Integer.MIN_VALUE, Integer.MAX_VALUE}) {
            D.due("save(" + slot + ")", x.save(slot), -2);
            D.due("restore(" + slot + ")", x.restore(slot), -2);
        }
        for (int slot = 0; slot < 2; slot++) {
            x.tick(3);
            D.due("save(" + slot + ")", x.save(slot), 3 * slot + 3);
        }
        for (int slot = 0; slot < 2; slot++) {
            D.due("restore(" + slot + ")", x.restore(slot), 3 * slot + 3);
            D.due("count(0)", x.count(0), 3 * slot + 3);
        }
        for (int slot : new int[] {-1, 2}) {
            D.due("restore(" + slot + ")", x.restore(slot), -2);
        }
    }

    /** "NOT_POSSIBLE if nothing was saved in it" */
    private static void nothingSaved() {
        for (int slot = 0; slot < 2; slot++) {
            RotaryExchange x = new RotaryExchange();
            x.lift(3);
            D.due("restore(0)", x.restore(0), -5);
            D.due("restore(1)", x.restore(1), -5);
            x.save(1 - slot);
            x.until(0, 1, 5);
            x.attempt(0, 1, 0);
            D.due("restore of the other slot", x.restore(slot), -5);
            D.due("line(3, 0)", x.line(3, 0), 1);
            x.save(2);
            D.due("restore of the other slot", x.restore(slot), -5);
            x.save(slot);
            D.due("restore of the saved slot", x.restore(slot), 0);
        }
    }

    /** Everything is away from its first value: settings, meters, reasons, counts, digits, places, parking, finders. */
    private static RotaryExchange used() {
        RotaryExchange x = new RotaryExchange();
        x.setUp(4, 3);
        int[] values = {150, 140, 9, 80, 190};
        for (int setting = 0; setting < 5; setting++) {
            x.set(setting, values[setting]);
        }
        x.set(0, 5);
        Due.put(x, "l4,t11,h4,l4,t11,h4,l3,t40");
        D.due("carryOut()", x.carryOut(), 8);
        x.set(0, 150);
        Due.put(x, "l5,l6,l7,t11,d512,d652,d7229,t10,l1");
        D.due("carryOut()", x.carryOut(), 9);
        Due.put(x, "t30,h1,t4,l8,t13,d8234,t4,h6,la,t3,l9,t1,lb,lc");
        D.due("carryOut()", x.carryOut(), 14);
        for (int what : new int[] {5, 6, 7, 8, 9, 10, 11, 12, 13}) {
            D.due("count(" + what + ") is above 0", x.count(what) > 0);
        }
        return x;
    }

    /** "Saves everything except the pad and the slots": what can be asked. */
    private static void eachFieldIsSaved() {
        for (int slot = 0; slot < 2; slot++) {
            RotaryExchange x = used();
            int[] before = Due.everything(used());
            D.due("save", x.save(slot), x.count(0));
            x.setUp(1, 1);
            for (int setting = 0; setting < 5; setting++) {
                x.set(setting, 77);
            }
            Due.put(x, "l0,l1,l2,t50");
            x.carryOut();
            D.due("restore", x.restore(slot), before[0]);
            D.same("restore", Due.everything(x), before);
        }
    }

    /** What cannot be asked shows later: the next finder, the order of the waiting lines, pulses, the digits themselves. */
    private static void whatComesLaterIsSavedToo() {
        RotaryExchange restored = used();
        restored.save(0);
        restored.setUp(2, 1);
        Due.put(restored, "lc,lb,l9,t30");
        restored.carryOut();
        restored.restore(0);
        RotaryExchange twin = used();
        for (int step = 0; step < 12; step++) {
            for (RotaryExchange x : new RotaryExchange[] {restored, twin}) {
                x.tick(1 + step);
                x.lift(step);
            }
            for (int line = 0; line < 16; line++) {
                D.due("step " + step + ": state of " + line, restored.line(line, 0), twin.line(line, 0));
            }
        }
        D.same("later", Due.everything(restored), Due.everything(twin));
    }

    /** Which finder was allotted last (at first: none) is saved, too. */
    private static void theNextFinderIsSavedToo() {
        for (int next = 0; next < 4; next++) {
            RotaryExchange x = new RotaryExchange();
            x.setUp(4, 1);
            for (int i = 0; i < next; i++) {
                allot(x, i);
            }
            x.save(0);
            allot(x, next);
            x.save(1);
            x.restore(0);
            allot(x, next);
            allot(x, (next + 1) % 4);
            allot(x, (next + 2) % 4);
            x.restore(1);
            allot(x, (next + 1) % 4);
        }
    }

    private static void allot(RotaryExchange x, int finder) {
        x.lift(0);
        x.tick(1);
        D.due("line(0, 2)", x.line(0, 2), finder);
        x.hang(0);
    }

    /** A call goes on from each of its ticks as if it had never been saved and restored: pulses, digits, timers, clearing. */
    private static void savedAtEachTickOfACall() {
        int end = 40;
        RotaryExchange twin = new RotaryExchange();
        play(twin, 0, end);
        int[] want = Due.everything(twin);
        D.due("cleared", twin.line(5, 6), 6);
        for (int at = 0; at <= end; at++) {
            RotaryExchange x = new RotaryExchange();
            play(x, 0, at);
            D.due("save(1)", x.save(1), at);
            x.setUp(3, 3);
            Due.put(x, "l1,l5,t9,d59,t3");
            x.carryOut();
            D.due("restore(1)", x.restore(1), at);
            play(x, at, end);
            D.same("restored at " + at, Due.everything(x), want);
        }
    }

    /** The line 5 calls the line 1, which hangs twice, the second time for good; the line 8 rings the line 15 meanwhile. */
    private static void play(RotaryExchange x, int from, int to) {
        String[] acts = new String[40];
        acts[0] = "l5,l8";
        acts[8] = "d5123";
        acts[11] = "d8443";
        acts[17] = "l1";
        acts[21] = "h1";
        acts[25] = "l1";
        acts[28] = "h1";
        for (int time = from; time < to; time++) {
            if (acts[time] != null) {
                Due.put(x, acts[time]);
                D.due("carryOut() of " + acts[time], x.carryOut(), acts[time].split(",").length);
            }
            x.tick(1);
        }
    }

    /** The numbers of finders and connectors come back, too. */
    private static void restoreIntoAnotherSize() {
        RotaryExchange x = new RotaryExchange();
        x.setUp(4, 3);
        D.bringTone(x, 14);
        x.save(0);
        D.due("setUp(1, 1)", x.setUp(1, 1), 4);
        x.save(1);
        D.due("restore(0)", x.restore(0), 16);
        D.due("count(1)", x.count(1), 4);
        D.due("count(2)", x.count(2), 3);
        D.due("finder(3, 0)", x.finder(3, 0), 0);
        D.due("connector(4, 2)", x.connector(4, 2), -6);
        D.due("finder(0, 2)", x.finder(0, 2), 14);
        D.due("restore(1)", x.restore(1), 0);
        D.due("finder(1, 0)", x.finder(1, 0), -1);
        D.due("connector(1, 1)", x.connector(1, 1), -1);
        D.due("setUp(2, 1)", x.setUp(2, 1), 1);
    }

    /** "and overwrites what was saved there" */
    private static void overwritten() {
        RotaryExchange x = used();
        x.save(0);
        x.save(1);
        x.setUp(1, 1);
        D.due("save(0)", x.save(0), 0);
        x.tick(9);
        D.due("restore(0)", x.restore(0), 0);
        RotaryExchange fresh = new RotaryExchange();
        fresh.setUp(1, 1);
        for (int setting = 0; setting < 5; setting++) {
            fresh.set(setting, x.count(15 + setting));
        }
        D.same("the later one", Due.everything(x), Due.everything(fresh));
        D.due("the other slot keeps its own", x.restore(1) > 0);
    }

    /** "Restores what was saved last in a slot, which keeps it." */
    private static void keptByRestore() {
        RotaryExchange x = new RotaryExchange();
        x.lift(2);
        x.tick(1);
        x.save(1);
        for (int i = 0; i < 3; i++) {
            x.tick(10);
            x.hang(2);
            x.lift(7);
            x.set(0, 60 + i);
            D.due("restore(1)", x.restore(1), 1);
            D.due("line(2, 2)", x.line(2, 2), 0);
            D.due("line(7, 0)", x.line(7, 0), 0);
            D.due("count(15)", x.count(15), 20);
            D.due("finder(0, 1)", x.finder(0, 1), 0);
        }
    }

    private static void thePadIsNotSaved() {
        RotaryExchange x = new RotaryExchange();
        Due.put(x, "l0,t1");
        x.save(0);
        Due.put(x, "2");
        x.restore(0);
        D.due("the pad stays", x.count(14), 6);
        D.due("carryOut()", x.carryOut(), 2);
        D.due("count(0)", x.count(0), 12);
        x.restore(0);
        D.due("an empty pad stays empty", x.count(14), 0);
    }

    private static void theSlotsAreNotSaved() {
        RotaryExchange x = new RotaryExchange();
        x.save(0);
        x.tick(5);
        x.save(1);
        x.restore(0);
        D.due("the slot 1 stays", x.restore(1), 5);
        x.tick(2);
        x.save(0);
        D.due("restore(1)", x.restore(1), 5);
        D.due("restore(0)", x.restore(0), 7);
    }

    private static void savedAtTheEndsOfTime() {
        RotaryExchange x = new RotaryExchange();
        D.due("save(0)", x.save(0), 0);
        Due.passTo(x, 100000);
        D.due("save(1)", x.save(1), 100000);
        D.due("tick(1)", x.tick(1), -5);
        D.due("restore(0)", x.restore(0), 0);
        D.due("tick(1)", x.tick(1), 1);
        D.due("restore(1)", x.restore(1), 100000);
        D.due("tick(1)", x.tick(1), -5);
    }

    private static void savingChangesNothing() {
        RotaryExchange x = used();
        x.save(0);
        x.save(1);
        x.restore(1);
        D.same("behind save", Due.everything(x), Due.everything(used()));
    }
}
