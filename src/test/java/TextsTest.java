/** Promises 15 to 18: put, wipe, fault, carryOut. */
public final class TextsTest {
    private static final Due D = new Due("TextsTest");

    public static void main(String[] args) {
        putAppends();
        putRefuses();
        putUpToTheLimit();
        wipes();
        faults();
        carriesOut();
        stopsAtAFailure();
        carryOutRefuses();
        ticksOfTexts();
        D.end();
    }

    private static void putAppends() {
        RotaryExchange x = new RotaryExchange();
        D.due("put('!')", x.put(33), 1);
        D.due("put('~')", x.put(126), 2);
        D.due("put(l0)", x.put('l' << 8 | '0'), 4);
        D.due("put(8 times ~)", x.put(0x7e7e7e7e7e7e7e7eL), 12);
        D.due("count(14)", x.count(14), 12);
        x.wipe();
        x.put(0x6c302c68302c74L);
        x.put(0x31L);
        D.due("fault()", x.fault(), -6);
    }

    private static void putRefuses() {
        RotaryExchange x = new RotaryExchange();
        long[] wrong = {0, 32, 127, 128, 255, -1, 0x2100L, 0x210021L, 0x2121212121212120L, 0x2021212121212121L,
            0x7f21L, 0x217fL, 0x2100000000000021L, 0x8021212121212121L, Long.MIN_VALUE, Long.MAX_VALUE, 0x0100000000000021L};
        for (long characters : wrong) {
            D.due("put(" + characters + ")", x.put(characters), -2);
        }
        D.due("count(14)", x.count(14), 0);
    }

    private static void putUpToTheLimit() {
        RotaryExchange x = new RotaryExchange();
        for (int i = 1; i <= 7; i++) {
            D.due("put 8", x.put(0x6c302c6c302c6c30L), 8 * i);
        }
        D.due("put 5", x.put(0x2c6c302c6cL), -4);
        D.due("put a wrong one", x.put(32), -2);
        D.due("count(14)", x.count(14), 56);
        D.due("put 4", x.put(0x2c6c302cL), 60);
        D.due("put 1", x.put(33), -4);
        D.due("put 0", x.put(0), -2);
        D.due("wipe()", x.wipe(), 60);
    }

    private static void wipes() {
        RotaryExchange x = new RotaryExchange();
        D.due("wipe()", x.wipe(), 0);
        Due.put(x, "l5,t20");
        D.due("wipe()", x.wipe(), 6);
        D.due("count(14)", x.count(14), 0);
        D.due("fault()", x.fault(), 0);
        Due.put(x, "l");
        D.due("fault()", x.fault(), 1);
    }

    private static void fault(String text, int want) {
        RotaryExchange x = new RotaryExchange();
        if (!text.isEmpty()) {
            D.due("put(" + text + ")", Due.put(x, text), text.length());
        }
        D.due("fault() of " + text, x.fault(), want);
        due("carryOut() of " + text, x.carryOut() == -3, want != -6);
        D.due("count(14) behind " + text, x.count(14), want == -6 ? 0 : text.length());
    }

    private static void due(String what, boolean got, boolean want) {
        D.due(what, got ? 1 : 0, want ? 1 : 0);
    }

    private static void faults() {
        String[] right = {"l0", "h9", "la", "lf", "hf", "hd", "d00", "df9", "dd0123456789012345678901234567890", "t1", "t9", "t10",
            "t99", "t100", "t199", "t200", "t20", "l0,h0", "d01,t7,l5", "t200,t200", "dd0,l0", "t1,d1234,hd"};
        for (String text : right) {
            fault(text, -6);
        }
        String[] tooEarly = {"", "l", "h", "d", "d0", "t", "l0,", "d00,", "t5,", "l0,t", "l0,d", "l0,df"};
        for (String text : tooEarly) {
            fault(text, text.length());
        }
        fault("x", 0);
        fault("L0", 0);
        fault("0", 0);
        fault(",", 0);
        fault("lg", 1);
        fault("lA", 1);
        fault("l,", 1);
        fault("l00", 2);
        fault("l0h0", 2);
        fault("l0,,", 3);
        fault("dg0", 1);
        fault("d0,", 2);
        fault("d0a", 2);
        fault("d00a", 3);
        fault("d00l", 3);
        fault("t0", 1);
        fault("t05", 1);
        fault("t,", 1);
        fault("ta", 1);
        fault("t201", 3);
        fault("t210", 3);
        fault("t300", 3);
        fault("t999", 3);
        fault("t2000", 4);
        fault("t1000", 4);
        fault("t1l", 2);
        fault("t200a", 4);
        fault("l0,t201", 6);
        fault("t5,t5,x", 6);
        fault("d5111111111111111111111111111111111111111111111111,t0", 52);
    }

    private static void carriesOut() {
        RotaryExchange x = new RotaryExchange();
        Due.put(x, "l5,t7,d512,t6,l1,t1");
        D.due("carryOut()", x.carryOut(), 6);
        D.due("count(14)", x.count(14), 0);
        D.due("count(0)", x.count(0), 14);
        D.due("line(5, 0)", x.line(5, 0), 6);
        D.due("line(1, 0)", x.line(1, 0), 7);
        Due.put(x, "h5,h1");
        D.due("carryOut()", x.carryOut(), 2);
        D.due("line(1, 0)", x.line(1, 0), 0);
        D.due("carryOut()", x.carryOut(), -3);
        Due.put(x, "la,lf,hd");
        D.due("carryOut()", x.carryOut(), 2);
        D.due("line(10, 0)", x.line(10, 0), 1);
        D.due("line(15, 0)", x.line(15, 0), 1);
    }

    private static void stopsAtAFailure() {
        RotaryExchange x = new RotaryExchange();
        Due.put(x, "h0,l0,t5");
        D.due("carryOut()", x.carryOut(), 0);
        D.due("count(14)", x.count(14), 0);
        D.due("line(0, 0)", x.line(0, 0), 0);
        D.due("count(0)", x.count(0), 0);
        Due.put(x, "l0,t2,d012345,t9");
        D.due("carryOut()", x.carryOut(), 2);
        D.due("line(0, 4)", x.line(0, 4), 4);
        D.due("count(0)", x.count(0), 2);
        Due.put(x, "l0");
        D.due("carryOut()", x.carryOut(), 0);
        Due.put(x, "d91");
        D.due("carryOut()", x.carryOut(), 0);
    }

    private static void carryOutRefuses() {
        RotaryExchange x = new RotaryExchange();
        Due.put(x, "l0,t5,x");
        D.due("carryOut()", x.carryOut(), -3);
        D.due("line(0, 0)", x.line(0, 0), 0);
        D.due("count(14)", x.count(14), 7);
    }

    private static void ticksOfTexts() {
        RotaryExchange x = new RotaryExchange();
        Due.put(x, "t200,t150,t7");
        D.due("carryOut()", x.carryOut(), 3);
        D.due("count(0)", x.count(0), 357);
        for (int i = 0; i < 99; i++) {
            x.tick(1000);
        }
        x.tick(600);
        D.due("count(0)", x.count(0), 99957);
        Due.put(x, "l3,t44,l4");
        D.due("carryOut()", x.carryOut(), 1);
        D.due("count(0)", x.count(0), 99957);
        D.due("line(4, 0)", x.line(4, 0), 0);
        Due.put(x, "t43,l4");
        D.due("carryOut()", x.carryOut(), 2);
        D.due("count(0)", x.count(0), 100000);
    }
}
