/** Promises 24 to 34: sheets, tellings, casts, trace, fault, many. */
public final class SheetsTest {
    private static final Due DUE = new Due();
    private static final long LOST = Long.MIN_VALUE;

    public static void main(String[] args) {
        sheet();
        lose();
        put();
        cutToLane();
        cell();
        copy();
        copyWithinOne();
        tell();
        pinch();
        as();
        traceWraps();
        fault();
        many();
        DUE.end();
    }

    private static void sheet() {
        ColdOaths x = new ColdOaths();
        DUE.is(x, "sheet -1", x.sheet(-1, 9, -1), -1, 0);
        DUE.is(x, "sheet 4", x.sheet(4, 0, 0), -1, 0);
        DUE.is(x, "lane -1", x.sheet(0, -1, -1), -2, 0);
        DUE.is(x, "lane 3", x.sheet(0, 3, -1), -2, 0);
        DUE.is(x, "61", x.sheet(0, 0, 61), -2, 0);
        DUE.is(x, "size", x.sheet(0, 0, -1), -14, 4);
        DUE.is(x, "size", x.sheet(0, 0, Integer.MIN_VALUE), -14, 4);
        DUE.is("still nothing", x.lose(0), 0);
        DUE.is(x, "60", x.sheet(0, 2, 60), 1, 0);
        DUE.is("the last cell", x.put(0, 59, 7), 1);
        DUE.is(x, "size", x.sheet(0, 0, -1), -14, 4);
        DUE.is("as it was", x.cell(0, 59, 2), 7);
        DUE.is(x, "anew", x.sheet(0, 2, 60), 1, 0);
        DUE.is("0 at first", x.cell(0, 59, 2), 0);
        DUE.is(x, "shorter, of another lane", x.sheet(0, 1, 3), 1, 0);
        DUE.is(x, "no cell 3", x.put(0, 3, 0), -13, 3);
        DUE.is(x, "of no cells", x.sheet(3, 0, 0), 1, 0);
        DUE.is(x, "no cell 0", x.put(3, 0, 0), -13, 3);
        DUE.is("it has a row", x.lose(3), 1);
    }

    private static void lose() {
        ColdOaths x = new ColdOaths();
        DUE.is("lose(-1)", x.lose(-1), -1);
        DUE.is("lose(4)", x.lose(4), -1);
        DUE.is("lose(0)", x.lose(0), 0);
        x.sheet(0, 0, 3);
        x.sheet(1, 0, 3);
        x.put(0, 0, 5);
        DUE.is("lose(0)", x.lose(0), 1);
        DUE.is("lose(0)", x.lose(0), 0);
        DUE.is(x, "nothing", x.put(0, 0, 5), -11, 1);
        DUE.is("lose names no fault", x.lose(1), 1);
        DUE.is("so the fault stays", x.fault(), 1);
        x.sheet(0, 0, 3);
        DUE.is("0 again", x.cell(0, 0, 0), 0);
    }

    private static void put() {
        ColdOaths x = new ColdOaths();
        DUE.is(x, "put(-1)", x.put(-1, -1, 0), -1, 0);
        DUE.is(x, "put(4)", x.put(4, 0, 0), -1, 0);
        DUE.is(x, "nothing", x.put(2, -1, 0), -11, 1);
        x.sheet(2, 2, 2);
        DUE.is(x, "index", x.put(2, -1, 0), -13, 3);
        DUE.is(x, "index", x.put(2, 2, 0), -13, 3);
        DUE.is(x, "put", x.put(2, 1, -7), 1, 0);
        DUE.is("cell 1", x.cell(2, 1, 2), -7);
        DUE.is("cell 0", x.cell(2, 0, 2), 0);
    }

    private static void cutToLane() {
        ColdOaths x = new ColdOaths();
        for (int lane = 0; lane < 3; lane++) {
            x.sheet(lane, lane, 1);
        }
        int[] told = {127, 128, 255, 256, -128, -129, 32767, 32768, 65535, -32769, Integer.MAX_VALUE, Integer.MIN_VALUE};
        for (int v : told) {
            for (int lane = 0; lane < 3; lane++) {
                x.put(lane, 0, v);
            }
            DUE.is("byte " + v, x.cell(0, 0, 0), (byte) v);
            DUE.is("short " + v, x.cell(1, 0, 1), (short) v);
            DUE.is("int " + v, x.cell(2, 0, 2), v);
        }
    }

    private static void cell() {
        ColdOaths x = new ColdOaths();
        DUE.is(x, "cell(-1)", x.cell(-1, 0, 0), LOST, 0);
        DUE.is(x, "cell(4)", x.cell(4, 0, 0), LOST, 0);
        DUE.is(x, "lane -1", x.cell(0, 0, -1), LOST, 0);
        DUE.is(x, "lane 3", x.cell(0, 0, 3), LOST, 0);
        DUE.is(x, "nothing", x.cell(0, -1, 2), LOST, 1);
        DUE.is(x, "refused behind a fault", x.cell(4, 0, 0), LOST, 0);
        x.sheet(0, 1, 2);
        x.put(0, 1, -300);
        DUE.is(x, "cast", x.cell(0, -1, 0), LOST, 2);
        DUE.is(x, "cast", x.cell(0, 0, 2), LOST, 2);
        DUE.is(x, "index", x.cell(0, -1, 1), LOST, 3);
        DUE.is(x, "index", x.cell(0, 2, 1), LOST, 3);
        DUE.is(x, "cell", x.cell(0, 1, 1), -300, 0);
    }

    private static void copy() {
        ColdOaths x = new ColdOaths();
        DUE.is(x, "no sheet", x.copy(-1, 0, 0, 0, 0), -1, 0);
        DUE.is(x, "no sheet", x.copy(0, 0, 4, 0, 0), -1, 0);
        DUE.is(x, "nothing", x.copy(0, -1, 1, -1, -1), -11, 1);
        Days.numbers(x, 0, 2, 1, 2, 3, 4);
        DUE.is(x, "nothing there", x.copy(0, -1, 1, -1, -1), -11, 1);
        DUE.is(x, "nothing here", x.copy(1, -1, 0, -1, -1), -11, 1);
        x.sheet(1, 1, 5);
        DUE.is(x, "lanes", x.copy(0, -1, 1, -1, -1), -12, 2);
        x.sheet(1, 2, 5);
        int[][] beyond = {{-1, 0, 0}, {0, -1, 0}, {0, 0, -1}, {5, 0, 0}, {0, 6, 0}, {0, 0, 5}, {1, 0, 4}, {0, 2, 4},
            {4, 0, Integer.MAX_VALUE}, {Integer.MAX_VALUE, 0, 1}, {0, Integer.MAX_VALUE, 1}, {0, 0, Integer.MIN_VALUE}};
        for (int[] c : beyond) {
            DUE.is(x, "beyond " + c[0] + " " + c[1] + " " + c[2], x.copy(0, c[0], 1, c[1], c[2]), -13, 3);
        }
        DUE.is(x, "none at the ends", x.copy(0, 4, 1, 5, 0), 0, 0);
        DUE.is(x, "three", x.copy(0, 1, 1, 2, 3), 3, 0);
        int[] want = {0, 0, 2, 3, 4};
        for (int i = 0; i < 5; i++) {
            DUE.is("cell " + i, x.cell(1, i, 2), want[i]);
        }
        DUE.is("the first is as it was", x.cell(0, 1, 2), 2);
        DUE.is("all", x.copy(1, 1, 0, 0, 4), 4);
        DUE.is("cell 0", x.cell(0, 0, 2), 0);
        DUE.is("cell 3", x.cell(0, 3, 2), 4);
    }

    private static void copyWithinOne() {
        ColdOaths x = new ColdOaths();
        Days.numbers(x, 0, 0, 1, 2, 3, 4, 5);
        DUE.is("forward", x.copy(0, 0, 0, 1, 4), 4);
        int[] forward = {1, 1, 2, 3, 4};
        for (int i = 0; i < 5; i++) {
            DUE.is("forward " + i, x.cell(0, i, 0), forward[i]);
        }
        DUE.is("backward", x.copy(0, 1, 0, 0, 4), 4);
        int[] backward = {1, 2, 3, 4, 4};
        for (int i = 0; i < 5; i++) {
            DUE.is("backward " + i, x.cell(0, i, 0), backward[i]);
        }
    }

    private static void tell() {
        ColdOaths x = Days.of(Days.USUAL);
        DUE.is("a plain one", x.tell(0), 3);
        DUE.is("trace", x.trace(), 1);
        DUE.is("a bearded one", x.tell(1), 101);
        DUE.is("trace", x.trace(), (31 + 2) * 31 + 1);
        DUE.is("nobody", x.tell(4), -1);
        DUE.is("nobody", x.tell(-1), -1);
        DUE.is("trace stays", x.trace(), (31 + 2) * 31 + 1);
        x = Days.of(Days.USUAL);
        DUE.is("a double one", x.tell(2), 104);
        DUE.is("trace", x.trace(), ((3 * 31 + 2) * 31 + 1) * 31 + 1);
        x.coat(2, 9);
        DUE.is("in another coat", x.tell(2), 118);
    }

    private static void pinch() {
        ColdOaths x = Days.of(Days.USUAL);
        DUE.is("a plain one", x.pinch(0), 2);
        DUE.is("trace", x.trace(), 4);
        DUE.is("a bearded one", x.pinch(1), 1);
        DUE.is("trace", x.trace(), 4 * 31 + 4);
        DUE.is("a double one", x.pinch(2), 80);
        DUE.is("trace", x.trace(), (4 * 31 + 4) * 31 + 5);
        DUE.is("nobody", x.pinch(4), -1);
        DUE.is("nobody", x.pinch(-1), -1);
        DUE.is("trace stays", x.trace(), (4 * 31 + 4) * 31 + 5);
        x.release(0);
        DUE.is("one less", x.pinch(0), 1);
        x.swear(1, 0, 3);
        DUE.is("one more, that does not bind", x.pinch(1), 2);
    }

    private static void as() {
        ColdOaths x = Days.of(Days.USUAL);
        for (int s = 0; s < 4; s++) {
            int own = s % 3;
            for (int kind = 0; kind < 3; kind++) {
                DUE.is(x, "as(" + s + ", " + kind + ")", x.as(s, kind), kind <= own ? 1 : -12, kind <= own ? 0 : 2);
            }
            DUE.is(x, "as(" + s + ", -1)", x.as(s, -1), -2, 0);
            DUE.is(x, "as(" + s + ", 3)", x.as(s, 3), -2, 0);
        }
        DUE.is(x, "as(4, 9)", x.as(4, 9), -1, 0);
        DUE.is(x, "as(-1, 0)", x.as(-1, 0), -1, 0);
        DUE.is("trace stays", x.trace(), 0);
    }

    private static void traceWraps() {
        ColdOaths x = Days.of("o5;d3;p1");
        int want = 0;
        for (int k = 0; k < 40; k++) {
            x.tell(0);
            for (int number : new int[] {3, 2, 1, 1}) {
                want = 31 * want + number;
            }
            DUE.is("trace behind " + k, x.trace(), want);
        }
    }

    private static void fault() {
        ColdOaths x = Days.of(Days.USUAL);
        DUE.is(x, "index", x.put(0, 99, 0), -13, 3);
        x.tell(0);
        x.lose(2);
        x.stove(0, 99);
        x.ofSwearer(9, 9);
        x.swear(9, 9, 9);
        x.many(0);
        DUE.is("calls that name none leave it", x.fault(), 3);
        DUE.is(x, "put", x.put(0, 0, 111), 1, 0);
        x.as(0, 2);
        DUE.is("cast", x.fault(), 2);
        DUE.is(x, "a text that is none", x.day(0, 0, 1, 2), -100, 0);
        x.as(0, 2);
        DUE.is(x, "refused", x.as(9, 0), -1, 0);
        x.as(0, 2);
        DUE.is(x, "a trial", x.trial(0, 0, 0, 0, 1), -9, 0);
        x.as(0, 2);
        DUE.is(x, "a copy", x.copy(0, 0, 0, 0, 0), 0, 0);
        x.as(0, 2);
        DUE.is(x, "a cell", x.cell(0, 0, 0), 111, 0);
        x.as(0, 2);
        DUE.is(x, "a sheet", x.sheet(0, 0, 0), 1, 0);
    }

    private static void many() {
        ColdOaths x = Days.of("o529;p3;b1,010,101,012");
        int[] want = {3, 2, 3, 2, 0};
        for (int what = 0; what < 5; what++) {
            DUE.is("many(" + what + ")", x.many(what), want[what]);
        }
        x.reading(0, 0, 0);
        DUE.is("many(4)", x.many(4), 1);
        x.stove(0, 9);
        DUE.is("many(3)", x.many(3), 1);
        DUE.is("many(-1)", x.many(-1), -2);
        DUE.is("many(5)", x.many(5), -2);
        DUE.is("none of a new one", new ColdOaths().many(5), -2);
    }
}
