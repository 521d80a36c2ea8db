/** The boundary cases of "Texts" and of the promises 15 (put), 16 (wipe), 17 (fault) and 18 (carryOut), a test for each sentence. */
public final class TextBoundariesTest {
    private static final Due D = new Due("TextBoundariesTest");
    private static final int IDLE = 0, WAITING = 1, TONE = 2;
    private static final String HEX = "0123456789abcdef";

    public static void main(String[] args) {
        putOf1To8Characters();
        putOfTheCodes33To126();
        putOfOtherCodes();
        putWithCharactersAboveAGap();
        putInOrder();
        padOf60Characters();
        wipeOfAnEmptyAndAFullPad();
        faultOfAnEmptyPad();
        firstCharacterOfAnAct();
        linesOfActs();
        digitsOfActs();
        numbersFrom1To200();
        numbersWithLeadingZeros();
        numbersTooGreat();
        textsThatEndTooEarly();
        commas();
        faultsAtTheEndOfAFullPad();
        faultsAcrossPuts();
        faultChangesNothing();
        carryOutOfAllLines();
        carryOutOfAFullPad();
        carryOutOfOneAct();
        carryOutUntilTheFirstFailure();
        carryOutOfDigitsUpToTheFailure();
        carryOutUpToTheLastTime();
        carryOutEmptiesThePad();
        carryOutWithAFault();
        D.end();
    }

    /** A new object with a text on its pad. */
    private static RotaryExchange with(String text) {
        RotaryExchange x = new RotaryExchange();
        if (!text.isEmpty()) {
            D.due("put(" + text + ")", Due.put(x, text), text.length());
        }
        return x;
    }

    private static void fault(String text, int want) {
        D.due("fault() of " + text, with(text).fault(), want);
    }

    /** "characters: 1 to 8 characters", "BAD_VALUE if there is no character" */
    private static void putOf1To8Characters() {
        RotaryExchange x = new RotaryExchange();
        D.due("put(0)", x.put(0), -2);
        int length = 0;
        for (int characters = 1; characters <= 8; characters++) {
            length += characters;
            D.due("put of " + characters, x.put(Due.packed("l0,h0,t1".substring(0, characters))), length);
            D.due("count(14)", x.count(14), length);
        }
    }

    /** "a code is not 33 to 126": at each of the eight places. */
    private static void putOfTheCodes33To126() {
        for (int place = 0; place < 8; place++) {
            RotaryExchange x = new RotaryExchange();
            long others = 0x4141414141414141L & ~(255L << 8 * place);
            D.due("33 at " + place, x.put(others | 33L << 8 * place), 8);
            D.due("126 at " + place, x.put(others | 126L << 8 * place), 16);
        }
        RotaryExchange x = new RotaryExchange();
        for (int code = 33; code <= 126; code++) {
            D.due("put(" + code + ")", x.put(code), 1);
            x.wipe();
        }
    }

    private static void putOfOtherCodes() {
        RotaryExchange x = new RotaryExchange();
        for (int place = 0; place < 8; place++) {
            long others = 0x4141414141414141L & ~(255L << 8 * place);
            for (long code : new long[] {1, 10, 31, 32, 127, 128, 129, 161, 254, 255}) {
                D.due(code + " at " + place, x.put(others | code << 8 * place), -2);
            }
        }
        for (int code = 0; code < 256; code++) {
            if (code < 33 || code > 126) {
                D.due("put(" + code + ")", x.put(code), -2);
            }
        }
        D.due("count(14)", x.count(14), 0);
    }

    /** "8 bits that are 0 mean that there are no more characters, and everything above them has to be 0, too" */
    private static void putWithCharactersAboveAGap() {
        RotaryExchange x = new RotaryExchange();
        for (int gap = 0; gap < 7; gap++) {
            long below = 0x4141414141414141L >>> 8 * (8 - gap);
            below = gap == 0 ? 0 : below;
            for (int bit = 8 * (gap + 1); bit < 64; bit++) {
                D.due("bit " + bit + " above a gap at " + gap, x.put(below | 1L << bit), -2);
            }
            D.due("only below a gap at " + gap, x.put(below), gap == 0 ? -2 : gap);
            x.wipe();
        }
    }

    /** "its lowest 8 bits are the last character, the next 8 bits the one before, and so on" */
    private static void putInOrder() {
        RotaryExchange x = new RotaryExchange();
        D.due("put", x.put('t' << 16 | '1' << 8 | '9'), 3);
        D.due("put", x.put('7'), 4);
        D.due("fault()", x.fault(), -6);
        D.due("carryOut()", x.carryOut(), 1);
        D.due("count(0)", x.count(0), 197);
        D.due("put", x.put('0' << 8 | 'l'), 2);
        D.due("fault()", x.fault(), 0);
    }

    /** "The pad is a text of at most 60 characters", "TOO_MANY if the pad would be longer than 60" */
    private static void padOf60Characters() {
        for (int characters = 1; characters <= 8; characters++) {
            RotaryExchange x = with("!".repeat(60 - characters));
            long text = Due.packed("~".repeat(characters));
            if (characters < 8) {
                D.due("61 characters", x.put(text << 8 | '~'), -4);
            }
            D.due("count(14)", x.count(14), 60 - characters);
            D.due("60 characters", x.put(text), 60);
            D.due("one more", x.put('~'), -4);
            D.due("a wrong one more", x.put(' '), -2);
            D.due("eight more", x.put(Due.packed("~~~~~~~~")), -4);
            D.due("count(14)", x.count(14), 60);
            D.due("wipe()", x.wipe(), 60);
        }
    }

    /** "Empties the pad, and returns the length that it had." */
    private static void wipeOfAnEmptyAndAFullPad() {
        RotaryExchange x = new RotaryExchange();
        D.due("wipe() of an empty pad", x.wipe(), 0);
        x.put('l');
        D.due("wipe() of one character", x.wipe(), 1);
        Due.put(x, "l0,".repeat(20));
        D.due("wipe() of a full pad", x.wipe(), 60);
        D.due("wipe() again", x.wipe(), 0);
        D.due("count(14)", x.count(14), 0);
        Due.put(x, "t1");
        D.due("nothing is left of the text before", x.fault(), -6);
    }

    /** "if there is none and the text ends too early (also if it is empty), it is the length of the text" */
    private static void faultOfAnEmptyPad() {
        RotaryExchange x = new RotaryExchange();
        D.due("fault()", x.fault(), 0);
        D.due("carryOut()", x.carryOut(), -3);
        Due.put(x, "l0");
        x.carryOut();
        D.due("fault() behind carryOut()", x.fault(), 0);
        Due.put(x, "h0");
        x.wipe();
        D.due("fault() behind wipe()", x.fault(), 0);
    }

    private static void firstCharacterOfAnAct() {
        for (char c = 33; c <= 126; c++) {
            boolean right = "lhdt".indexOf(c) >= 0;
            fault(String.valueOf(c), right ? 1 : 0);
            fault("t7," + c, right ? 4 : 3);
        }
    }

    /** "A line is one of the characters 0 to 9 and a to f" */
    private static void linesOfActs() {
        for (char c = 33; c <= 126; c++) {
            boolean right = HEX.indexOf(c) >= 0;
            fault("l" + c, right ? -6 : 1);
            fault("h" + c, right ? -6 : 1);
            fault("d" + c, right ? 2 : 1);
            fault("l" + c + ",", right ? 3 : 1);
        }
        fault("l00", 2);
        fault("lff", 2);
        fault("h10", 2);
    }

    /** "d" line digit { digit } */
    private static void digitsOfActs() {
        for (char c = 33; c <= 126; c++) {
            boolean right = c >= '0' && c <= '9';
            fault("d7" + c, right ? -6 : 2);
            fault("d70" + c, right ? -6 : c == ',' ? 4 : 3);
        }
        fault("d7" + "0".repeat(58), -6);
        fault("d7" + "9".repeat(57) + "a", 59);
        fault("d71234567890123456789,t200", -6);
        fault("d71234567890123456789,t201", 25);
    }

    /** "tick() with a number from 1 to 200" */
    private static void numbersFrom1To200() {
        for (int number = 1; number <= 200; number++) {
            fault("t" + number, -6);
        }
        for (char c = 33; c <= 126; c++) {
            boolean digit = c >= '0' && c <= '9';
            fault("t" + c, digit && c != '0' ? -6 : 1);
            fault("t1" + c, digit ? -6 : c == ',' ? 3 : 2);
            fault("t19" + c, digit ? -6 : c == ',' ? 4 : 3);
            fault("t20" + c, c == '0' ? -6 : c == ',' ? 4 : 3);
            fault("t200" + c, c == ',' ? 5 : 4);
        }
    }

    /** "a number has no leading zeros" */
    private static void numbersWithLeadingZeros() {
        for (String number : new String[] {"0", "00", "01", "007", "0200", "0,"}) {
            fault("t" + number, 1);
            fault("l3,t" + number, 4);
        }
    }

    /** "(also of a digit by which a number would be too great)" */
    private static void numbersTooGreat() {
        for (int number = 201; number <= 1000; number++) {
            fault("t" + number, number == 1000 ? 4 : 3);
        }
        fault("t1999", 4);
        fault("t2000", 4);
        fault("t20,t201", 7);
        fault("t2147483648", 3);
        fault("t4294967297", 3);
        fault("t1" + "0".repeat(58), 4);
    }

    private static void textsThatEndTooEarly() {
        for (String text : new String[] {"", "l", "h", "d", "t", "d7", "df", "l0,", "h0,", "d00,", "t1,", "t200,", "l0,l", "l0,d", "l0,d7", "l0,t"}) {
            fault(text, text.length());
            D.due("carryOut() of " + text, with(text).carryOut(), -3);
        }
    }

    /** acts = act { "," act } */
    private static void commas() {
        fault(",", 0);
        fault(",l0", 0);
        fault("l0,,h0", 3);
        fault("l0,h0,", 6);
        fault("l,0", 1);
        fault("d7,0", 2);
        fault("t,1", 1);
        fault("l0h0", 2);
        fault("l0;h0", 2);
        fault("d70h0", 3);
        fault("t1h0", 2);
        fault("l0,h0,d70,t1", -6);
    }

    private static void faultsAtTheEndOfAFullPad() {
        String begin = "l0,h0,l0,h0,l0,h0,l0,h0,l0,h0,l0,h0,l0,h0,l0,h0,l0,h0,l0,";
        fault(begin + "h0", -6);
        fault(begin + "t10", -6);
        fault(begin + "t1,", 60);
        fault(begin + "d7x", 59);
        fault(begin + "h0x", 59);
        fault(begin + "h0,", 60);
        fault("!" + begin + "t1", 0);
    }

    /** The pad is one text, however it was put. */
    private static void faultsAcrossPuts() {
        RotaryExchange x = new RotaryExchange();
        int[] faults = {1, -6, -6, -6, 4, 4};
        String text = "t2001,";
        for (int i = 0; i < text.length(); i++) {
            x.put(text.charAt(i));
            D.due("fault() of " + text.substring(0, i + 1), x.fault(), faults[i]);
        }
    }

    private static void faultChangesNothing() {
        RotaryExchange x = with("l0,t5,x");
        D.due("fault()", x.fault(), 6);
        D.due("fault()", x.fault(), 6);
        D.due("count(14)", x.count(14), 7);
        D.due("count(0)", x.count(0), 0);
        D.due("line(0, 0)", x.line(0, 0), IDLE);
    }

    /** "(a for the line 10)": each character is its line, for lift(), hang() and dial(). */
    private static void carryOutOfAllLines() {
        for (int line = 0; line < 16; line++) {
            char c = HEX.charAt(line);
            RotaryExchange x = with("l" + c);
            D.due("carryOut()", x.carryOut(), 1);
            for (int other = 0; other < 16; other++) {
                D.due("l" + c + ": line(" + other + ", 0)", x.line(other, 0), other == line ? WAITING : IDLE);
            }
            x.tick(x.until(line, TONE, 100));
            Due.put(x, "d" + c + "9");
            D.due("carryOut()", x.carryOut(), 1);
            D.due("d" + c + "9: line(" + line + ", 4)", x.line(line, 4), 1);
            Due.put(x, "h" + c);
            D.due("carryOut()", x.carryOut(), 1);
            D.due("h" + c + ": count(13)", x.count(13), 0);
        }
    }

    private static void carryOutOfAFullPad() {
        RotaryExchange x = with("l0,h0,".repeat(9) + "l0,t10");
        D.due("count(14)", x.count(14), 60);
        D.due("carryOut()", x.carryOut(), 20);
        D.due("count(14)", x.count(14), 0);
        D.due("count(6)", x.count(6), 10);
        D.due("count(0)", x.count(0), 10);
        x = with("t200,".repeat(11) + "t200");
        D.due("carryOut()", x.carryOut(), 12);
        D.due("count(0)", x.count(0), 2400);
    }

    private static void carryOutOfOneAct() {
        RotaryExchange x = with("t1");
        D.due("carryOut()", x.carryOut(), 1);
        D.due("count(0)", x.count(0), 1);
        Due.put(x, "t200");
        D.due("carryOut()", x.carryOut(), 1);
        D.due("count(0)", x.count(0), 201);
        Due.put(x, "h0");
        D.due("carryOut() of an act that fails", x.carryOut(), 0);
    }

    /** "one after the other until one of them fails": the first, one between, the last. */
    private static void carryOutUntilTheFirstFailure() {
        RotaryExchange x = with("h0,l1,t5");
        D.due("the first", x.carryOut(), 0);
        D.due("line(1, 0)", x.line(1, 0), IDLE);
        D.due("count(0)", x.count(0), 0);
        Due.put(x, "l1,t5,l1,h1,t5");
        D.due("one between", x.carryOut(), 2);
        D.due("line(1, 1)", x.line(1, 1), 1);
        D.due("count(0)", x.count(0), 5);
        Due.put(x, "h1,l2,t3,d31");
        D.due("the last", x.carryOut(), 3);
        D.due("line(2, 1)", x.line(2, 1), 1);
        D.due("count(0)", x.count(0), 8);
    }

    /** "(of an act with several digits, those before the one that fails stay dialed)" */
    private static void carryOutOfDigitsUpToTheFailure() {
        RotaryExchange x = with("l0,t2,d01234,h0,l0");
        D.due("four digits", x.carryOut(), 5);
        x = with("l0,t2,d012345,h0");
        D.due("five digits", x.carryOut(), 2);
        D.due("line(0, 4)", x.line(0, 4), 4);
        D.due("line(0, 1)", x.line(0, 1), 1);
        x.tick(3);
        D.due("they are the first four", x.finder(0, 3), 1);
        D.due("finder(0, 0)", x.finder(0, 0), 5);
        x.tick(1);
        D.due("finder(0, 5)", x.finder(0, 5), 2);
        Due.put(x, "d0678");
        D.due("two are left: two more fit", x.carryOut(), 0);
        D.due("line(0, 4)", x.line(0, 4), 4);
        x = with("l0,t2,d01,d02,d03,d04,d05,h0");
        D.due("each an act", x.carryOut(), 6);
        x = with("l0,d01");
        D.due("not yet TONE", x.carryOut(), 1);
        D.due("line(0, 4)", x.line(0, 4), 0);
    }

    /** tick() fails if the time would be greater than 100000, and makes no tick then. */
    private static void carryOutUpToTheLastTime() {
        RotaryExchange x = new RotaryExchange();
        Due.passTo(x, 99800);
        x.save(0);
        Due.put(x, "t200,l0,t1,l1");
        D.due("up to 100000", x.carryOut(), 2);
        D.due("count(0)", x.count(0), 100000);
        D.due("line(0, 0)", x.line(0, 0), WAITING);
        D.due("line(1, 0)", x.line(1, 0), IDLE);
        x.restore(0);
        Due.put(x, "t1,t200");
        D.due("one beyond", x.carryOut(), 1);
        D.due("count(0)", x.count(0), 99801);
        Due.put(x, "t199");
        D.due("up to 100000", x.carryOut(), 1);
        D.due("count(0)", x.count(0), 100000);
    }

    /** "and empties the pad", also if an act fails */
    private static void carryOutEmptiesThePad() {
        for (String text : new String[] {"l0", "h0", "l0,l0,l0", "t5,d01"}) {
            RotaryExchange x = with(text);
            D.due("carryOut() of " + text, x.carryOut() >= 0);
            D.due("count(14)", x.count(14), 0);
            D.due("fault()", x.fault(), 0);
            D.due("wipe()", x.wipe(), 0);
            D.due("carryOut() again", x.carryOut(), -3);
        }
    }

    /** "BAD_TEXT if the pad has a fault": nothing is carried out, and the pad stays. */
    private static void carryOutWithAFault() {
        for (String text : new String[] {"x", "l0,", "l0,t5,t201", "l0,t5,h"}) {
            RotaryExchange x = with(text);
            D.due("carryOut() of " + text, x.carryOut(), -3);
            D.due("carryOut() of " + text, x.carryOut(), -3);
            D.due("count(14)", x.count(14), text.length());
            D.same("behind " + text, Due.everything(x), Due.everything(new RotaryExchange()));
        }
        RotaryExchange x = with("l0,");
        x.carryOut();
        Due.put(x, "t9");
        D.due("the pad can be completed", x.carryOut(), 2);
        D.due("count(0)", x.count(0), 9);
    }
}
