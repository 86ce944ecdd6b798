/** Promises 1 to 8: a new object, and the day. */
public final class DayTest {
    private static final Due DUE = new Due();

    public static void main(String[] args) {
        newObject();
        textsThatAreTaken();
        firstFaults();
        failedTextChangesNothing();
        dayRefusals();
        dayFromTheMiddle();
        dayMakesAllAnew();
        ofSwearer();
        ofOath();
        ofHour();
        chill();
        coat();
        frost();
        DUE.end();
    }

    private static void newObject() {
        ColdOaths x = new ColdOaths();
        for (int what = 0; what < 5; what++) {
            DUE.is("new: many(" + what + ")", x.many(what), 0);
        }
        DUE.is("new: ofSwearer", x.ofSwearer(0, 0), -1);
        DUE.is("new: ofOath", x.ofOath(0, 0), -1);
        DUE.is("new: ofHour", x.ofHour(0, 0), -1);
        DUE.is("new: trace", x.trace(), 0);
        DUE.is("new: fault", x.fault(), 0);
        DUE.is("new: stove ahead of all", x.stove(77, 77), -3);
        for (int k = 0; k < 4; k++) {
            DUE.is("new: lose(" + k + ")", x.lose(k), 0);
        }
    }

    private static void taken(String text, int hours, int swearers, int oaths) {
        ColdOaths x = new ColdOaths();
        DUE.is(text, Days.tell(x, text), swearers);
        DUE.is(text + " hours", x.many(0), hours);
        DUE.is(text + " swearers", x.many(1), swearers);
        DUE.is(text + " oaths", x.many(2), oaths);
        DUE.is(text + " fault", x.fault(), 0);
    }

    private static void textsThatAreTaken() {
        taken("o0;p0", 1, 1, 0);
        taken("o9;b9", 1, 1, 0);
        taken("o012345;d9", 6, 1, 0);
        taken("o1;p1;b2;d3;p4", 1, 4, 0);
        taken("o1;p1;b2,010", 1, 2, 1);
        taken("o987654;p1;b2;d3;p4,325,015,100,234,121,303", 6, 4, 6);
        taken(Days.USUAL, 4, 4, 5);
    }

    private static void faulty(String text, int place) {
        DUE.is(text, Days.tell(new ColdOaths(), text), -100 - place);
    }

    private static void firstFaults() {
        faulty("", 0);
        faulty("x", 0);
        faulty("5", 0);
        faulty("o", 1);
        faulty("o;", 1);
        faulty("ox", 1);
        faulty("o5", 2);
        faulty("o5,", 2);
        faulty("o5/", 2);
        faulty("o5:", 2);
        faulty("o123456", 7);
        faulty("o1234567;p1", 7);
        faulty("o5;", 3);
        faulty("o5;x3", 3);
        faulty("o5;P3", 3);
        faulty("o5;3", 3);
        faulty("o5;p", 4);
        faulty("o5;pp", 4);
        faulty("o5;p33", 5);
        faulty("o5;p3;", 6);
        faulty("o5;p1;p2;p3;p4;p5", 14);
        faulty("o5;p1;p2;p3;p4;", 14);
        faulty("o5;p3,", 6);
        faulty("o5;p3,0", 7);
        faulty("o5;p3,1", 6);
        faulty("o5;p3,00", 7);
        faulty("o5;p3,01", 7);
        faulty("o5;p3,10", 6);
        faulty("o5;p3,x", 6);
        faulty("o5;p3;b2,2", 9);
        faulty("o5;p3;b2,00", 10);
        faulty("o5;p3;b2,11", 10);
        faulty("o5;p3;b2,02", 10);
        faulty("o5;p3;b2,01", 11);
        faulty("o5;p3;b2,011", 11);
        faulty("o5;p3;b2,01x", 11);
        faulty("o55;p3;b2,012", 12);
        faulty("o5;p3;b2,0100", 12);
        faulty("o5;p3;b2,010;", 12);
        faulty("o5;p3;b2,010,", 13);
        faulty("o5;p3;b2,010,010,010,010,010,010,", 32);
        faulty("o5;p3;b2,010,010,010,010,010,010,010", 32);
        faulty("o5;p3;b2 ", 8);
    }

    private static void failedTextChangesNothing() {
        ColdOaths x = Days.of("o59;p1;b2,011");
        x.stove(1, 3);
        x.reading(0, 0, 1);
        DUE.is("failed text", Days.tell(x, "o1111;d1;d1;d1,012,x"), -100 - 19);
        DUE.is("many hours", x.many(0), 2);
        DUE.is("many swearers", x.many(1), 2);
        DUE.is("many oaths", x.many(2), 1);
        DUE.is("many readings", x.many(4), 1);
        DUE.is("stove", x.ofHour(1, 1), 3);
        DUE.is("kind", x.ofSwearer(1, 0), 1);
        DUE.is("frost", x.ofHour(1, 0), 9);
    }

    private static void dayRefusals() {
        ColdOaths x = new ColdOaths();
        DUE.is(x, "day of sheet -1", x.day(-1, 9, 0, 0), -1, 0);
        DUE.is(x, "day of sheet 4", x.day(4, 9, 0, 0), -1, 0);
        DUE.is(x, "day of lane -1", x.day(0, -1, 0, 0), -2, 0);
        DUE.is(x, "day of lane 3", x.day(0, 3, 0, 0), -2, 0);
        DUE.is(x, "day of nothing", x.day(0, 2, 0, -1), -11, 1);
        Days.write(x, 1, 1, "o5;p3");
        DUE.is(x, "day of another lane", x.day(1, 0, -1, -1), -12, 2);
        DUE.is(x, "day of another lane", x.day(1, 2, 0, 5), -12, 2);
        DUE.is(x, "day of size -1", x.day(1, 1, -1, -1), -14, 4);
        DUE.is(x, "day from -1", x.day(1, 1, -1, 0), -13, 3);
        DUE.is(x, "day from 6, of none", x.day(1, 1, 6, 0), -13, 3);
        DUE.is(x, "day from 5, of none", x.day(1, 1, 5, 0), -100, 0);
        DUE.is(x, "day from 1", x.day(1, 1, 1, 5), -13, 3);
        DUE.is(x, "day of too many", x.day(1, 1, 0, 6), -13, 3);
        DUE.is(x, "day of far too many", x.day(1, 1, 5, Integer.MAX_VALUE), -13, 3);
        DUE.is(x, "day from far", x.day(1, 1, Integer.MAX_VALUE, 1), -13, 3);
        DUE.is("no day yet", x.many(1), 0);
        DUE.is(x, "day", x.day(1, 1, 0, 5), 1, 0);
    }

    private static void dayFromTheMiddle() {
        ColdOaths x = new ColdOaths();
        Days.write(x, 2, 2, "xxo5;p3x");
        DUE.is("from 2 on", x.day(2, 2, 2, 5), 1);
        DUE.is("places begin with the text", x.day(2, 2, 2, 6), -105);
        DUE.is("too short", x.day(2, 2, 2, 4), -104);
        DUE.is("from 0 on", x.day(2, 2, 0, 8), -100);
        Days.numbers(x, 3, 2, 111, 53 + 256, 59, 112, 51);
        DUE.is("an int is no byte", x.day(3, 2, 0, 5), -101);
        Days.numbers(x, 3, 0, 111, 53 + 256, 59, 112, 51);
        DUE.is("a byte is cut", x.day(3, 0, 0, 5), 1);
    }

    private static void dayMakesAllAnew() {
        ColdOaths x = Days.of(Days.USUAL);
        x.stove(0, 9);
        x.reading(0, 0, 1);
        x.tell(0);
        DUE.is("anew", Days.tell(x, "o77;d3"), 1);
        DUE.is("anew: hours", x.many(0), 2);
        DUE.is("anew: oaths", x.many(2), 0);
        DUE.is("anew: readings", x.many(4), 0);
        DUE.is("anew: no stove", x.ofHour(0, 1), -9);
        DUE.is("anew: chill", x.chill(0, 0), 101);
        DUE.is("anew: trace stays", x.trace(), 1);
    }

    private static void ofSwearer() {
        ColdOaths x = Days.of(Days.USUAL);
        int[][] want = {
            {0, 3, 3, 0b0101, 0b01001, 0b00001},
            {1, 1, 2, 0b0101, 0b00010, 0b00010},
            {2, 2, 4, 0b0101, 0b00100, 0b00100},
            {0, 0, 0, 0b0111, 0b10000, 0b10000},
        };
        for (int s = 0; s < 4; s++) {
            for (int what = 0; what < 6; what++) {
                DUE.is("ofSwearer(" + s + ", " + what + ")", x.ofSwearer(s, what), want[s][what]);
            }
        }
        DUE.is("ofSwearer(-1, 9)", x.ofSwearer(-1, 9), -1);
        DUE.is("ofSwearer(4, 0)", x.ofSwearer(4, 0), -1);
        DUE.is("ofSwearer(0, -1)", x.ofSwearer(0, -1), -2);
        DUE.is("ofSwearer(0, 6)", x.ofSwearer(0, 6), -2);
        DUE.is("a double one without a coat", Days.of("o1;d0").ofSwearer(0, 2), 0);
        DUE.is("a double one in a thick coat", Days.of("o1;d9").ofSwearer(0, 2), 18);
    }

    private static void ofOath() {
        ColdOaths x = Days.of(Days.USUAL);
        int[][] want = {{0, 1, 0, 102, 1}, {1, 2, 0, 103, 1}, {2, 0, 2, 105, 1}, {0, 3, 1, 99, 0}, {3, 0, 1, 102, 1}};
        for (int i = 0; i < 5; i++) {
            for (int what = 0; what < 5; what++) {
                DUE.is("ofOath(" + i + ", " + what + ")", x.ofOath(i, what), want[i][what]);
            }
        }
        DUE.is("ofOath(-1, 9)", x.ofOath(-1, 9), -1);
        DUE.is("ofOath(5, 0)", x.ofOath(5, 0), -1);
        DUE.is("ofOath(0, -1)", x.ofOath(0, -1), -2);
        DUE.is("ofOath(0, 5)", x.ofOath(0, 5), -2);
        x.stove(0, 2);
        DUE.is("oath by a stove, chill", x.ofOath(0, 3), 100);
        DUE.is("a chill of 0 is not cold", x.ofOath(0, 4), 0);
        DUE.is("oath by a stove, still cold", x.ofOath(1, 4), 1);
        DUE.is("oath at another hour", x.ofOath(2, 3), 105);
    }

    private static void ofHour() {
        ColdOaths x = Days.of(Days.USUAL);
        int[] frost = {5, 2, 9, 0};
        int[] cold = {15, 8, 15, 0};
        for (int h = 0; h < 4; h++) {
            DUE.is("ofHour(" + h + ", 0)", x.ofHour(h, 0), frost[h]);
            DUE.is("ofHour(" + h + ", 1)", x.ofHour(h, 1), -9);
            DUE.is("ofHour(" + h + ", 2)", x.ofHour(h, 2), cold[h]);
        }
        DUE.is("ofHour(-1, 9)", x.ofHour(-1, 9), -1);
        DUE.is("ofHour(4, 0)", x.ofHour(4, 0), -1);
        DUE.is("ofHour(0, -1)", x.ofHour(0, -1), -2);
        DUE.is("ofHour(0, 3)", x.ofHour(0, 3), -2);
        x.stove(0, 0);
        DUE.is("a stove of heat 0 stands there", x.ofHour(0, 1), 0);
        x.stove(2, 5);
        DUE.is("the stove was moved", x.ofHour(0, 1), -9);
        DUE.is("heat", x.ofHour(2, 1), 5);
        DUE.is("frost is as it was", x.ofHour(2, 0), 9);
        DUE.is("cold by the stove", x.ofHour(2, 2), 0b1011);
    }

    private static void chill() {
        ColdOaths x = Days.of("o09;d9;b0");
        DUE.is("chill(0, 0)", x.chill(0, 0), 82);
        DUE.is("chill(0, 1)", x.chill(0, 1), 91);
        DUE.is("chill(1, 1)", x.chill(1, 1), 108);
        x.stove(0, 9);
        DUE.is("chill(0, 0) by a stove", x.chill(0, 0), 73);
        DUE.is("chill(1, 1), the stove elsewhere", x.chill(1, 1), 108);
        DUE.is("chill(2, 0)", x.chill(2, 0), -1);
        DUE.is("chill(0, 2)", x.chill(0, 2), -1);
        DUE.is("chill(-1, 0)", x.chill(-1, 0), -1);
        DUE.is("chill(0, -1)", x.chill(0, -1), -1);
        DUE.is("chill(0, NONE)", x.chill(0, ColdOaths.NONE), -1);
    }

    private static void coat() {
        ColdOaths x = Days.of(Days.USUAL);
        DUE.is("coat(0, 9)", x.coat(0, 9), 3);
        DUE.is("coat(0, 0)", x.coat(0, 0), 9);
        DUE.is("it is so", x.ofSwearer(0, 1), 0);
        DUE.is("oath 3 binds then", x.ofOath(3, 4), 1);
        DUE.is("coat(0, 10)", x.coat(0, 10), -2);
        DUE.is("coat(0, -1)", x.coat(0, -1), -2);
        DUE.is("coat(4, 10)", x.coat(4, 10), -1);
        DUE.is("coat(-1, 0)", x.coat(-1, 0), -1);
        DUE.is("it is as it was", x.ofSwearer(0, 1), 0);
        DUE.is("another one's is as it was", x.ofSwearer(1, 1), 1);
    }

    private static void frost() {
        ColdOaths x = Days.of(Days.USUAL);
        DUE.is("frost(1, 9)", x.frost(1, 9), 2);
        DUE.is("oath 3 binds then", x.ofOath(3, 4), 1);
        DUE.is("frost(1, 0)", x.frost(1, 0), 9);
        DUE.is("nobody is cold then", x.ofHour(1, 2), 0);
        DUE.is("frost(1, 10)", x.frost(1, 10), -2);
        DUE.is("frost(1, -1)", x.frost(1, -1), -2);
        DUE.is("frost(4, 10)", x.frost(4, 10), -1);
        DUE.is("frost(-1, 0)", x.frost(-1, 0), -1);
        DUE.is("it is as it was", x.ofHour(1, 0), 0);
        DUE.is("another one's is as it was", x.ofHour(2, 0), 9);
    }
}
