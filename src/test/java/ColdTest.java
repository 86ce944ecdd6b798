/** Promises 18 to 23: readings, what follows from them, and odds. */
public final class ColdTest {
    private static final Due DUE = new Due();

    public static void main(String[] args) {
        reading();
        back();
        coats();
        kinds();
        frosts();
        othersReadings();
        stoveCounts();
        odds();
        DUE.end();
    }

    private static void reading() {
        ColdOaths x = new ColdOaths();
        DUE.is("no day", x.reading(0, 0, 0), -1);
        Days.tell(x, "o52;p3;b1");
        DUE.is("no swearer", x.reading(2, 0, 7), -1);
        DUE.is("no swearer", x.reading(-1, 0, 0), -1);
        DUE.is("no hour", x.reading(0, 2, 7), -1);
        DUE.is("no hour", x.reading(0, -1, 0), -1);
        DUE.is("cold 2", x.reading(0, 0, 2), -2);
        DUE.is("cold -1", x.reading(0, 0, -1), -2);
        for (int k = 0; k < 8; k++) {
            DUE.is("reading " + k, x.reading(k % 2, k / 2 % 2, k % 2), k);
        }
        DUE.is("unknown ahead of full", x.reading(2, 0, 0), -1);
        DUE.is("outside ahead of full", x.reading(0, 0, 2), -2);
        DUE.is("full", x.reading(0, 0, 0), -4);
        DUE.is("many", x.many(4), 8);
    }

    private static void back() {
        ColdOaths x = new ColdOaths();
        DUE.is("none", x.back(0), 0);
        DUE.is("none", x.back(1), -2);
        Days.tell(x, "o52;p3;b1");
        x.reading(0, 0, 1);
        x.reading(0, 0, 0);
        x.reading(1, 1, 1);
        DUE.is("back(4)", x.back(4), -2);
        DUE.is("back(-1)", x.back(-1), -2);
        DUE.is("back(0)", x.back(0), 3);
        DUE.is("no coat by both", x.coats(0), 0);
        DUE.is("back(2)", x.back(2), 1);
        DUE.is("the first is left", x.coats(0), 0b11111);
        DUE.is("the next number", x.reading(0, 1, 0), 1);
        DUE.is("back(2)", x.back(2), 0);
        DUE.is("many", x.many(4), 0);
    }

    private static void coats() {
        ColdOaths x = Days.of("o52;p3;b1;d2");
        for (int s = 0; s < 3; s++) {
            DUE.is("all", x.coats(s), 1023);
        }
        DUE.is("coats(3)", x.coats(3), -1);
        DUE.is("coats(-1)", x.coats(-1), -1);
        int[] cold = {0b11111, 0b1111, 0b111};
        int[] coldNotThen = {0b11100, 0b01110, 0b00110};
        for (int s = 0; s < 3; s++) {
            x.reading(s, 0, 1);
            DUE.is("cold at 0", x.coats(s), cold[s]);
            x.reading(s, 1, 0);
            DUE.is("not at 1", x.coats(s), coldNotThen[s]);
            x.reading(s, 0, 0);
            DUE.is("both", x.coats(s), 0);
            x.back(3);
        }
        DUE.is("coat is as it was", x.ofSwearer(0, 1), 3);
    }

    private static void kinds() {
        ColdOaths x = Days.of("o542;p3;b3;d3");
        for (int s = 0; s < 3; s++) {
            DUE.is("all", x.kinds(s), 7);
            x.reading(s, 0, 1);
            DUE.is("kind does not matter to what was", x.ofSwearer(s, 0), s);
        }
        DUE.is("kinds(3)", x.kinds(3), -1);
        DUE.is("kinds(-1)", x.kinds(-1), -1);
        DUE.is("the double one is not cold, so none of another", x.kinds(0), 0);
        DUE.is("of the double one", x.kinds(2), 3);
        x.back(3);
        x.reading(0, 1, 1);
        DUE.is("plain", x.kinds(0), 1);
        x.back(1);
        x.reading(0, 1, 0);
        x.reading(0, 0, 1);
        DUE.is("bearded", x.kinds(0), 2);
        x.back(2);
        x.reading(0, 0, 0);
        DUE.is("double", x.kinds(0), 4);
        DUE.is("kind is as it was", x.ofSwearer(0, 0), 0);
    }

    private static void frosts() {
        ColdOaths x = Days.of("o52;p3;b1;d2");
        DUE.is("all", x.frosts(0), 1023);
        DUE.is("frosts(2)", x.frosts(2), -1);
        DUE.is("frosts(-1)", x.frosts(-1), -1);
        x.reading(0, 0, 0);
        DUE.is("0 is not cold", x.frosts(0), 0b1111);
        x.reading(1, 0, 1);
        DUE.is("1 is cold", x.frosts(0), 0b1000);
        DUE.is("frost of another hour can't help", x.frosts(1), 0);
        x.back(2);
        x.reading(2, 0, 1);
        DUE.is("2 is cold", x.frosts(0), 0b1111100000);
        DUE.is("of another hour", x.frosts(1), 1023);
        DUE.is("frost is as it was", x.ofHour(0, 0), 5);
    }

    private static void othersReadings() {
        ColdOaths x = Days.of("o52;p3;b1");
        x.reading(1, 0, 0);
        DUE.is("a coat of 0 can't help", x.coats(0), 0);
        DUE.is("a coat of 1 can", x.coats(1), 0b1111110000);
        DUE.is("a kind can't", x.kinds(0), 0);
        x.coat(1, 4);
        DUE.is("it is so then", x.coats(0), 1023);
        DUE.is("it is so then", x.kinds(0), 7);
        DUE.is("readings stay", x.many(4), 1);
    }

    private static void stoveCounts() {
        ColdOaths x = Days.of("o52;p3");
        x.stove(0, 2);
        x.reading(0, 0, 1);
        DUE.is("coats by a stove", x.coats(0), 0b111);
        DUE.is("frosts by a stove", x.frosts(0), 0b1111000000);
        x.stove(1, 2);
        DUE.is("coats, the stove elsewhere", x.coats(0), 0b11111);
    }

    private static void odds(ColdOaths x, int s, int n, long upper, long lower) {
        DUE.is("odds(" + s + ", " + n + ", 0)", x.odds(s, n, 0), upper);
        DUE.is("odds(" + s + ", " + n + ", 1)", x.odds(s, n, 1), lower);
    }

    private static void odds() {
        ColdOaths x = Days.of("o123456;p2;p1;p9;p0");
        odds(x, 0, 0, 1, 1);
        odds(x, 0, 1, 2, 3);
        odds(x, 0, 2, 4, 9);
        odds(x, 0, 8, 256, 6561);
        odds(x, 1, 1, 5, 6);
        odds(x, 1, 8, 390625, 1679616);
        odds(x, 2, 0, 1, 1);
        odds(x, 2, 1, 0, 1);
        odds(x, 2, 8, 0, 1);
        odds(x, 3, 0, 1, 1);
        odds(x, 3, 8, 1, 1);
        x.coat(0, 3);
        odds(x, 0, 3, 1, 8);
        x.stove(5, 9);
        odds(x, 0, 3, 1, 27);
        long lost = Long.MIN_VALUE;
        odds(x, 4, 0, lost, lost);
        odds(x, -1, 0, lost, lost);
        odds(x, 0, -1, lost, lost);
        odds(x, 0, 9, lost, lost);
        DUE.is("odds(0, 0, 2)", x.odds(0, 0, 2), lost);
        DUE.is("odds(0, 0, -1)", x.odds(0, 0, -1), lost);
        DUE.is("no day", new ColdOaths().odds(0, 0, 0), lost);
    }
}
