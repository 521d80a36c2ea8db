/** Promises 1 to 3: a new object, setUp, set. */
public final class ExchangeTest {
    private static final Due D = new Due("ExchangeTest");

    public static void main(String[] args) {
        aNewObject();
        setUpMakesANewExchange();
        setUpKeepsSettingsPadAndSlots();
        setUpRefuses();
        setUpBeginsWithTheFinder0();
        setChanges();
        setRefuses();
        D.end();
    }

    private static void aNewObject() {
        RotaryExchange x = new RotaryExchange();
        int[] counts = {0, 2, 1, 2, 4, 0, 0, 0, 0, 0, 0, 0, 0, 0, 0, 20, 40, 30, 10, 15};
        for (int what = 0; what < counts.length; what++) {
            D.due("count(" + what + ")", x.count(what), counts[what]);
        }
        int[] numbers = {0, 0, -6, -6, 0, 0, 0, -6, 0};
        for (int line = 0; line < 16; line++) {
            for (int what = 0; what < numbers.length; what++) {
                D.due("line(" + line + ", " + what + ")", x.line(line, what), numbers[what]);
            }
        }
        int[] finder = {0, 0, -6, 0, -6, 0, 0, 0};
        for (int what = 0; what < finder.length; what++) {
            D.due("finder(1, " + what + ")", x.finder(1, what), finder[what]);
        }
        D.due("fault()", x.fault(), 0);
        D.due("restore(0)", x.restore(0), -5);
        D.due("restore(1)", x.restore(1), -5);
    }

    private static void setUpMakesANewExchange() {
        RotaryExchange x = new RotaryExchange();
        D.bringTalking(x, 3, 9);
        D.bringTone(x, 6);
        x.dial(6, 9);
        x.tick(40);
        D.due("line(6, 6)", x.line(6, 6), 3);
        D.due("setUp(4, 3)", x.setUp(4, 3), 2);
        int[] counts = {0, 4, 3, 4, 12, 0, 0, 0, 0, 0, 0, 0, 0, 0, 0};
        for (int what = 0; what < counts.length; what++) {
            D.due("count(" + what + ")", x.count(what), counts[what]);
        }
        int[] numbers = {0, 0, -6, -6, 0, 0, 0, -6, 0};
        for (int line : new int[] {3, 6, 9}) {
            for (int what = 0; what < numbers.length; what++) {
                D.due("line(" + line + ", " + what + ")", x.line(line, what), numbers[what]);
            }
        }
        int[] finder = {0, 0, -6, 0, -6, 0, 0, 0};
        for (int number = 0; number < 4; number++) {
            for (int what = 0; what < finder.length; what++) {
                D.due("finder(" + number + ", " + what + ")", x.finder(number, what), finder[what]);
            }
        }
        D.due("connector(3, 0)", x.connector(3, 0), -6);
        D.due("setUp(1, 1)", x.setUp(1, 1), 4);
        D.due("finder(1, 0)", x.finder(1, 0), -1);
        D.due("connector(1, 1)", x.connector(1, 1), -1);
    }

    private static void setUpKeepsSettingsPadAndSlots() {
        RotaryExchange x = new RotaryExchange();
        x.set(0, 7);
        x.tick(5);
        x.save(1);
        Due.put(x, "l0");
        D.due("setUp(3, 2)", x.setUp(3, 2), 2);
        D.due("count(15)", x.count(15), 7);
        D.due("count(14)", x.count(14), 2);
        D.due("restore(1)", x.restore(1), 5);
        D.due("count(1)", x.count(1), 2);
    }

    private static void setUpRefuses() {
        RotaryExchange x = new RotaryExchange();
        x.lift(0);
        int[][] wrong = {{0, 1}, {5, 1}, {-1, 1}, {1, 0}, {1, 4}, {1, -1}, {Integer.MIN_VALUE, 1}, {1, Integer.MAX_VALUE}};
        for (int[] pair : wrong) {
            D.due("setUp(" + pair[0] + ", " + pair[1] + ")", x.setUp(pair[0], pair[1]), -2);
        }
        D.due("line(0, 0)", x.line(0, 0), 1);
        D.due("setUp(4, 1)", x.setUp(4, 1), 2);
        D.due("setUp(1, 3)", x.setUp(1, 3), 4);
    }

    private static void setUpBeginsWithTheFinder0() {
        RotaryExchange x = new RotaryExchange();
        x.lift(1);
        x.tick(1);
        D.due("line(1, 2)", x.line(1, 2), 0);
        x.setUp(3, 1);
        x.lift(2);
        x.tick(1);
        D.due("line(2, 2)", x.line(2, 2), 0);
    }

    private static void setChanges() {
        int[] first = {20, 40, 30, 10, 15};
        int[] most = {200, 200, 100, 100, 200};
        RotaryExchange x = new RotaryExchange();
        for (int setting = 0; setting < 5; setting++) {
            D.due("set to most", x.set(setting, most[setting]), first[setting]);
            D.due("set above", x.set(setting, most[setting] + 1), -2);
            D.due("count", x.count(15 + setting), most[setting]);
            D.due("set to 1", x.set(setting, 1), most[setting]);
            D.due("set to 0", x.set(setting, 0), -2);
            D.due("set below", x.set(setting, -1), -2);
            D.due("count", x.count(15 + setting), 1);
            D.due("set to 50", x.set(setting, 50), 1);
        }
    }

    private static void setRefuses() {
        RotaryExchange x = new RotaryExchange();
        for (int setting : new int[] {-1, 5, Integer.MIN_VALUE, Integer.MAX_VALUE}) {
            D.due("set(" + setting + ", 1)", x.set(setting, 1), -2);
        }
        D.due("set(0, max)", x.set(0, Integer.MAX_VALUE), -2);
        D.due("set(0, min)", x.set(0, Integer.MIN_VALUE), -2);
        D.due("count(15)", x.count(15), 20);
    }
}
