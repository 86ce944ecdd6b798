/** Promises 13 to 17: who is bound, who is cold together, rings, stoves. */
public final class BoundTest {
    private static final Due DUE = new Due();

    public static void main(String[] args) {
        bound();
        longestRing();
        together();
        coated();
        refusalsOfSets();
        letgo();
        leastOfSeveral();
        stoves();
        stovesOfNoOaths();
        DUE.end();
    }

    private static void bound() {
        ColdOaths x = Days.of(Days.USUAL);
        int[][] want = {{3, 1, 2, -9}, {2, 3, 1, -9}, {1, 2, 3, -9}, {1, 2, 3, -9}};
        for (int s = 0; s < 4; s++) {
            for (int t = 0; t < 4; t++) {
                DUE.is("bound(" + s + ", " + t + ")", x.bound(s, t), want[s][t]);
            }
        }
        DUE.is("bound(4, 0)", x.bound(4, 0), -1);
        DUE.is("bound(0, 4)", x.bound(0, 4), -1);
        DUE.is("bound(-1, 0)", x.bound(-1, 0), -1);
        DUE.is("bound(0, -1)", x.bound(0, -1), -1);
        x.frost(1, 4);
        DUE.is("0 is bound to 3 then", x.bound(0, 3), 1);
        DUE.is("3 to itself by 2", x.bound(3, 3), 2);
        x.stove(0, 9);
        DUE.is("0 no more to 1", x.bound(0, 1), -9);
        DUE.is("2 to 3", x.bound(2, 3), 2);
    }

    private static void longestRing() {
        ColdOaths x = Days.of("o1;p0;p0;p0;p0,010,120,230,300");
        DUE.is("by four to oneself", x.bound(2, 2), 4);
        DUE.is("by three", x.bound(0, 3), 3);
        DUE.is("by three, around", x.bound(2, 1), 3);
        x.swear(0, 2, 0);
        DUE.is("a shorter way", x.bound(0, 3), 2);
        DUE.is("none without oaths", Days.of("o9;p0;p0").bound(0, 0), -9);
    }

    private static void together() {
        ColdOaths x = Days.of("o0352;p4;b2;p0;d1");
        int[] want = {0, 2, 2, 2, 1, 2, 2, 2, 1, 2, 2, 2, 1, 2, 2, 2};
        for (int set = 0; set < 16; set++) {
            DUE.is("together(" + set + ")", x.together(set), want[set]);
        }
        x.stove(2, 3);
        DUE.is("together(0) by a stove", x.together(0), 0);
        DUE.is("together(1) by a stove", x.together(1), -9);
        DUE.is("together(4) by a stove", x.together(4), 1);
        x.stove(1, 3);
        DUE.is("together(4) by a stove", x.together(4), 2);
        DUE.is("together(15) by a stove", x.together(15), 2);
        DUE.is("at none of six", Days.of("o123456;p9;p0;p0;p0").together(15), -9);
    }

    private static void coated() {
        ColdOaths x = Days.of("o35;p5;b3;d3;p9");
        int[] want = {-9, 0, -9, 0, 2, 0, 2, 0, 3, 0, 3, 0, 2, 0, 2, 0};
        for (int set = 0; set < 16; set++) {
            DUE.is("coated(" + set + ")", x.coated(set), want[set]);
        }
        x.stove(1, 1);
        DUE.is("coated(2) by a stove", x.coated(2), 1);
        x.stove(0, 9);
        DUE.is("coated(2), the stove elsewhere", x.coated(2), -9);
        DUE.is("none of four", Days.of("o1;p0;p0;p0;p0").coated(15), -9);
    }

    private static void refusalsOfSets() {
        ColdOaths x = new ColdOaths();
        DUE.is("together(-1)", x.together(-1), -2);
        DUE.is("together(16)", x.together(16), -2);
        DUE.is("coated(-1)", x.coated(-1), -2);
        DUE.is("coated(16)", x.coated(16), -2);
        DUE.is("together(15)", x.together(15), -3);
        DUE.is("coated(15)", x.coated(15), -3);
        DUE.is("together(0)", x.together(0), -3);
        DUE.is("coated(0)", x.coated(0), -3);
        Days.tell(x, "o5;p9;p1");
        DUE.is("together(4)", x.together(4), -1);
        DUE.is("coated(5)", x.coated(5), -1);
        DUE.is("together(8)", x.together(8), -1);
        DUE.is("coated(9)", x.coated(9), -1);
        DUE.is("together(2)", x.together(2), 0);
        DUE.is("coated(3)", x.coated(3), 0);
    }

    private static void letgo() {
        ColdOaths x = new ColdOaths();
        DUE.is("letgo(-1)", x.letgo(-1), -2);
        DUE.is("letgo(2)", x.letgo(2), -2);
        DUE.is("letgo(0)", x.letgo(0), -3);
        DUE.is("letgo(1)", x.letgo(1), -3);
        Days.tell(x, Days.USUAL);
        DUE.is("letgo(0)", x.letgo(0), 1);
        DUE.is("letgo(1)", x.letgo(1), 1);
        x.coat(0, 0);
        DUE.is("two rings", x.letgo(0), 2);
        DUE.is("two rings", x.letgo(1), 0b01001);
        x.coat(0, 9);
        DUE.is("no ring", x.letgo(0), 0);
        DUE.is("no ring", x.letgo(1), 0);
        DUE.is("letgo(2)", x.letgo(2), -2);
    }

    private static void lettingGo(String text, int set) {
        ColdOaths x = Days.of(text);
        DUE.is(text + " letgo(0)", x.letgo(0), Integer.bitCount(set));
        DUE.is(text + " letgo(1)", x.letgo(1), set);
    }

    private static void leastOfSeveral() {
        lettingGo("o1;p0;p0", 0);
        lettingGo("o1;p0;p0,010,100", 0b1);
        lettingGo("o1;p1;p0,010,100", 0);
        lettingGo("o1;p0;p0,010,010,100", 0b100);
        lettingGo("o1;p0;p0,010,010,010,100,100,100", 0b000111);
        lettingGo("o1;p0;p0;p0,010,100,120,210,200,020", 0b010110);
        lettingGo("o1;p0;p0;p0;p0,010,120,200,010,230,300", 0b10);
        lettingGo("o10;p0;p0,010,100,101", 0b1);
        lettingGo("o1;p0;p0;p0;p0,010,100,230,320", 0b0101);
        // One oath through which both rings go is fewer than one of each.
        lettingGo("o1;p0;p0;p0;p0,120,200,130,300,010", 0b10000);
    }

    private static void stoves(ColdOaths x, int set, int pairs, int hour, int heat) {
        DUE.is("stoves(" + set + ", 0)", x.stoves(set, 0), pairs);
        DUE.is("stoves(" + set + ", 1)", x.stoves(set, 1), hour);
        DUE.is("stoves(" + set + ", 2)", x.stoves(set, 2), heat);
    }

    private static void stoves() {
        ColdOaths x = new ColdOaths();
        DUE.is("no day", x.stoves(0, 0), -3);
        DUE.is("no day", x.stoves(63, 2), -3);
        DUE.is("outside", x.stoves(64, 0), -2);
        DUE.is("outside", x.stoves(-1, 0), -2);
        DUE.is("outside", x.stoves(0, 3), -2);
        DUE.is("outside", x.stoves(0, -1), -2);
        Days.tell(x, Days.USUAL);
        DUE.is("no such oath", x.stoves(32, 0), -1);
        DUE.is("no such oath", x.stoves(63, 0), -1);
        for (int where = 0; where < 3; where++) {
            stoves(x, 0b00000, 0, -9, -9);
            stoves(x, 0b01000, 2 + 2 + 5 + 10, 0, 0);
            stoves(x, 0b01001, 1, 0, 2);
            stoves(x, 0b01011, 7, 0, 3);
            stoves(x, 0b11000, 8, 1, 2);
            stoves(x, 0b01100, 5, 2, 5);
            stoves(x, 0b01010, 0, -9, -9);
            stoves(x, 0b11111, 0, -9, -9);
            x.stove(where, 9);
        }
        DUE.is("the stove stays where it is", x.ofHour(2, 1), 9);
    }

    private static void stovesOfNoOaths() {
        ColdOaths x = Days.of("o59;p0;p0");
        stoves(x, 0, 20, 0, 0);
        DUE.is("no such oath", x.stoves(1, 0), -1);
        x.swear(0, 1, 0);
        stoves(x, 0, 15, 0, 0);
        stoves(x, 1, 5, 0, 5);
    }
}
