/** Promises 9 to 12: oaths sworn, let go, the stove, and days that are told. */
public final class OathsTest {
    private static final Due DUE = new Due();

    public static void main(String[] args) {
        swear();
        release();
        stove();
        trialAnswers();
        trialOfFewSwearers();
        trialFirstWrong();
        trialOutside();
        trialRefusals();
        trialChangesNothing();
        DUE.end();
    }

    private static void swear() {
        ColdOaths x = Days.of(Days.USUAL);
        DUE.is("the same", x.swear(1, 1, 0), -1);
        DUE.is("no swearer", x.swear(4, 0, 0), -1);
        DUE.is("no swearer", x.swear(-1, 0, 0), -1);
        DUE.is("nobody to swear to", x.swear(0, 4, 0), -1);
        DUE.is("nobody to swear to", x.swear(0, -1, 0), -1);
        DUE.is("no hour", x.swear(0, 1, 4), -1);
        DUE.is("no hour", x.swear(0, 1, -1), -1);
        DUE.is("still 5", x.many(2), 5);
        DUE.is("swear", x.swear(3, 2, 1), 5);
        DUE.is("who", x.ofOath(5, 0), 3);
        DUE.is("to whom", x.ofOath(5, 1), 2);
        DUE.is("when", x.ofOath(5, 2), 1);
        DUE.is("it binds", x.many(3), 5);
        DUE.is("unknown ahead of full", x.swear(0, 0, 0), -1);
        DUE.is("unknown ahead of full", x.swear(0, 1, 4), -1);
        DUE.is("full", x.swear(0, 1, 0), -4);
        DUE.is("still 6", x.many(2), 6);
        DUE.is("nobody to swear to", Days.of("o5;p0").swear(0, 0, 0), -1);
    }

    private static void release() {
        ColdOaths x = Days.of(Days.USUAL);
        DUE.is("release(5)", x.release(5), -1);
        DUE.is("release(-1)", x.release(-1), -1);
        DUE.is("release(1)", x.release(1), 4);
        DUE.is("0 is as it was", x.ofOath(0, 1), 1);
        DUE.is("2 is 1 then", x.ofOath(1, 0), 2);
        DUE.is("to whom", x.ofOath(1, 1), 0);
        DUE.is("when", x.ofOath(1, 2), 2);
        DUE.is("4 is 3 then", x.ofOath(3, 0), 3);
        DUE.is("there is no 4", x.ofOath(4, 0), -1);
        DUE.is("release(3)", x.release(3), 3);
        DUE.is("release(0)", x.release(0), 2);
        DUE.is("release(0)", x.release(0), 1);
        DUE.is("release(0)", x.release(0), 0);
        DUE.is("release(0)", x.release(0), -1);
        DUE.is("sworn anew", x.swear(0, 1, 0), 0);
        ColdOaths full = Days.of("o1;p0;p0,010,100,010,100,010,100");
        DUE.is("of six", full.release(0), 5);
        DUE.is("the last of five", full.ofOath(4, 0), 1);
    }

    private static void stove() {
        ColdOaths x = new ColdOaths();
        DUE.is("no day", x.stove(0, 0), -3);
        DUE.is("no day, whatever is told", x.stove(-5, 99), -3);
        DUE.is("no day, none", x.stove(-9, 0), -3);
        Days.tell(x, Days.USUAL);
        DUE.is("stove(0, 2)", x.stove(0, 2), 3);
        DUE.is("stove(0, 3)", x.stove(0, 3), 2);
        DUE.is("stove(0, 9)", x.stove(0, 9), 2);
        DUE.is("stove(1, 2), moved", x.stove(1, 2), 3);
        DUE.is("stove(4, 99)", x.stove(4, 99), -1);
        DUE.is("stove(-1, 0)", x.stove(-1, 0), -1);
        DUE.is("stove(-8, 0)", x.stove(-8, 0), -1);
        DUE.is("stove(0, 10)", x.stove(0, 10), -2);
        DUE.is("stove(0, -1)", x.stove(0, -1), -2);
        DUE.is("it is where it was", x.ofHour(1, 1), 2);
        DUE.is("none", x.stove(-9, 77), 4);
        DUE.is("it is not there", x.ofHour(1, 1), -9);
        DUE.is("none again", x.stove(-9, -1), 4);
    }

    /** What trial answers for what 0, 1, 2, 3, 4, 10 .. 13 to pairs told by ints. */
    private static void trial(ColdOaths x, int[] pairs, int... want) {
        Days.numbers(x, 1, 2, pairs);
        int[] whats = {0, 1, 2, 3, 4, 10, 11, 12, 13};
        StringBuilder told = new StringBuilder("trial of");
        for (int v : pairs) {
            told.append(' ').append(v);
        }
        for (int k = 0; k < whats.length; k++) {
            DUE.is(x, told + ", what " + whats[k], x.trial(1, 2, 0, pairs.length / 2, whats[k]), want[k], 0);
        }
    }

    private static void trialAnswers() {
        ColdOaths x = Days.of(Days.USUAL);
        trial(x, new int[] {}, 0b10111, -9, 5, 9, 1, 5, 5, 5, 7);
        trial(x, new int[] {9, 0}, 0b10110, -9, 5, 7, 0, 0, 5, 5, 7);
        trial(x, new int[] {0, 0, 9, 0}, 0b10110, -9, 5, 7, 0, 0, 5, 5, 7);
        trial(x, new int[] {0, 0, 0, 1, 0, 2}, 0b11111, -9, 5, 12, 2, 7, 7, 7, 7);
        trial(x, new int[] {9, 3}, 0b00111, -9, 5, 6, 1, 5, 5, 5, 0);
        trial(x, new int[] {0, 4, 0, 5, 0, 6, 9, 7}, 0, -9, 5, 4, 0, 8, 8, 8, 8);
        trial(x, new int[] {0, 10, 0, 10}, 0b101, -9, 3, 9, 0, 5, 5, 5, 7);
        trial(x, new int[] {9, 11}, 0b10100, -9, 5, 5, 0, 4, 4, 4, 6);
        trial(x, new int[] {9, 11, 0, 13}, 0b10111, -9, 5, 9, 1, 5, 5, 5, 7);
        trial(x, new int[] {9, 12}, 0b00111, -9, 5, 8, 1, 5, 5, 5, 5);
        trial(x, new int[] {9, 11, 0, 17}, 0b10111, -9, 5, 9, 1, 5, 5, 5, 7);
        trial(x, new int[] {5, 14}, 0b10111, -9, 5, 9, 1, 5, 5, 5, 7);
        x.stove(2, 9);
        trial(x, new int[] {}, 0b10011, -9, 5, 5, 0, 1, 1, 1, 3);
        trial(x, new int[] {0, 17}, 0b10111, -9, 5, 9, 1, 5, 5, 5, 7);
        ColdOaths six = Days.of("o000009;p0;p0,015,105");
        trial(six, new int[] {8, 9, 7, 16}, 0b11, -9, 2, 2, 1, 32, 32, -9, -9);
        trial(six, new int[] {9, 16}, 0, -9, 2, 0, 0, 0, 0, -9, -9);
    }

    private static void trialOfFewSwearers() {
        ColdOaths x = Days.of("o5;p3");
        trial(x, new int[] {}, 0, -9, 0, 1, 0, 1, -9, -9, -9);
        trial(x, new int[] {1, 0, 1, 1}, -101, 1, -101, -101, -101, -101, -101, -101, -101);
    }

    private static void trialFirstWrong() {
        ColdOaths x = Days.of("o52;p3;b1,010,101");
        int[] at0 = {-100, 0, -100, -100, -100, -100, -100, -100, -100};
        int[] at1 = {-101, 1, -101, -101, -101, -101, -101, -101, -101};
        int[] at2 = {-102, 2, -102, -102, -102, -102, -102, -102, -102};
        trial(x, new int[] {1, 2}, at0);
        trial(x, new int[] {1, 3}, at0);
        trial(x, new int[] {1, 6}, at0);
        trial(x, new int[] {1, 9}, at0);
        trial(x, new int[] {2, 10}, at0);
        trial(x, new int[] {5, 10}, at0);
        trial(x, new int[] {0, 13}, at0);
        trial(x, new int[] {0, 16}, at0);
        trial(x, new int[] {0, 10, 1, 10}, at1);
        trial(x, new int[] {0, 10, 0, 10, 0, 10, 1, 3}, at2);
        trial(x, new int[] {1, 10, 0, 12, 0, 13, 0, 2}, at2);
    }

    private static void outside(ColdOaths x, int... pairs) {
        Days.numbers(x, 1, 2, pairs);
        StringBuilder told = new StringBuilder("outside:");
        for (int v : pairs) {
            told.append(' ').append(v);
        }
        DUE.is(x, told.toString(), x.trial(1, 2, 0, pairs.length / 2, 1), -2, 0);
    }

    private static void trialOutside() {
        ColdOaths x = Days.of(Days.USUAL);
        outside(x, 0, -1);
        outside(x, 0, 18);
        outside(x, -1, 0);
        outside(x, 10, 3);
        outside(x, 10, 4);
        outside(x, -1, 9);
        outside(x, 6, 10);
        outside(x, -1, 10);
        outside(x, 10, 11);
        outside(x, -1, 16);
        outside(x, 1, 17);
        outside(x, -1, 17);
        outside(x, 0, 0, 0, 1, 0, 18);
        outside(x, 0, 0, 10, 1);
        // A pair that is none refuses the call, whatever act ahead of it can't be.
        outside(x, 5, 10, 0, 18);
    }

    private static void trialRefusals() {
        ColdOaths x = new ColdOaths();
        DUE.is(x, "no sheet", x.trial(4, 9, 0, 99, 99), -1, 0);
        DUE.is(x, "no sheet", x.trial(-1, 0, 0, 0, 0), -1, 0);
        DUE.is(x, "lane", x.trial(0, 3, 0, 0, 0), -2, 0);
        DUE.is(x, "lane", x.trial(0, -1, 0, 0, 0), -2, 0);
        DUE.is(x, "n", x.trial(0, 0, 0, 21, 0), -2, 0);
        DUE.is(x, "n", x.trial(0, 0, 0, -1, 0), -2, 0);
        for (int what : new int[] {-1, 5, 9, 14, Integer.MIN_VALUE}) {
            DUE.is(x, "what " + what, x.trial(0, 0, 0, 0, what), -2, 0);
        }
        DUE.is(x, "nothing", x.trial(0, 0, -1, 0, 0), -11, 1);
        Days.numbers(x, 0, 1, 0, 99, 0, 0, 0);
        DUE.is(x, "lane", x.trial(0, 0, -1, 0, 0), -12, 2);
        DUE.is(x, "index", x.trial(0, 1, -1, 0, 0), -13, 3);
        DUE.is(x, "index", x.trial(0, 1, 6, 0, 0), -13, 3);
        DUE.is(x, "index", x.trial(0, 1, 0, 3, 0), -13, 3);
        DUE.is(x, "index", x.trial(0, 1, 2, 2, 0), -13, 3);
        DUE.is(x, "index", x.trial(0, 1, Integer.MAX_VALUE, 20, 0), -13, 3);
        DUE.is(x, "no day, ahead of the pairs", x.trial(0, 1, 0, 2, 0), -3, 0);
        DUE.is(x, "no day", x.trial(0, 1, 5, 0, 1), -3, 0);
        Days.write(x, 2, 2, Days.USUAL);
        x.day(2, 2, 0, Days.USUAL.length());
        DUE.is(x, "a pair", x.trial(0, 1, 0, 2, 0), -2, 0);
        DUE.is(x, "from 2 on", x.trial(0, 1, 2, 1, 2), 5, 0);
        DUE.is(x, "none at the end", x.trial(0, 1, 5, 0, 2), 5, 0);
        x.sheet(3, 0, 40);
        DUE.is(x, "20 pairs", x.trial(3, 0, 0, 20, 1), -9, 0);
    }

    private static void trialChangesNothing() {
        ColdOaths x = Days.of(Days.USUAL);
        x.stove(0, 1);
        Days.numbers(x, 1, 2, 9, 0, 9, 5, 0, 10, 4, 13);
        DUE.is("trial", x.trial(1, 2, 0, 4, 2), 4);
        DUE.is("coat", x.ofSwearer(0, 1), 3);
        DUE.is("frost", x.ofHour(1, 0), 2);
        DUE.is("oaths", x.many(2), 5);
        DUE.is("stove", x.ofHour(0, 1), 1);
        DUE.is("stove", x.ofHour(2, 1), -9);
        DUE.is("the sheet", x.cell(1, 7, 2), 13);
    }
}
