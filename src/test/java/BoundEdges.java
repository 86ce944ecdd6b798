/** Part 3 of the Terms, and promises 13 to 17. */
final class BoundEdges {
    private static final int MIN = Integer.MIN_VALUE, MAX = Integer.MAX_VALUE;

    private final Edges e;

    BoundEdges(Edges e) {
        this.e = e;
    }

    void run() {
        leastRow();
        together();
        coated();
        letGo();
        stovesByWhich();
        firstHourLeastHeat();
        promise13();
        promise14();
        promise15();
        promise16();
        promise17();
    }

    private void leastRow() {
        e.sentence(0, "BOUND: one is BOUND to another one by n, if n is the least such that from the one to the other "
            + "there is a row of n OATHS that BIND, each sworn to whoever swears the next one; NONE.");
        ColdOaths none = Days.of("o1;p0;p0;p0;p0");
        ColdOaths ring = Days.of("o1;p0;p0;p0;p0,010,120,230,300");
        ColdOaths line = Days.of("o1;p0;p0;p0;p0,320,210,100");
        for (int s = 0; s < 4; s++) {
            for (int t = 0; t < 4; t++) {
                e.due(none, -9, "bound", s, t);
                e.due(ring, t > s ? t - s : 4 + t - s, "bound", s, t);
                e.due(line, s > t ? s - t : -9, "bound", s, t);
            }
        }
        // The least of several rows, though the longer ones are told first.
        ColdOaths several = Days.of("o1;p0;p0;p0;p0,010,120,230,020,030");
        e.due(several, 1, "bound", 0, 3);
        several.release(4);
        e.due(several, 2, "bound", 0, 3);
        several.release(3);
        e.due(several, 3, "bound", 0, 3);
        // An oath that does not bind is in no row.
        ColdOaths warm = Days.of("o10;p0;p0;p0,010,121,100");
        e.due(warm, -9, "bound", 0, 2);
        e.due(warm, 2, "bound", 0, 0);
        warm.frost(1, 1);
        e.due(warm, 2, "bound", 0, 2);
        warm.coat(1, 1);
        e.due(warm, -9, "bound", 0, 2);
        e.due(warm, 1, "bound", 0, 1);
        e.due(warm, -9, "bound", 0, 0);
    }

    private void together() {
        e.sentence(0, "TOGETHER: the first HOUR at which all SWEARERS of a set are COLD (of nobody: 0); NONE.");
        e.due(Days.of("o0;p9"), 0, "together", 0);
        e.due(Days.of("o0;p9"), -9, "together", 1);
        ColdOaths x = Days.of("o012345;p4;p3;p2;p0");
        int[] first = {0, 5, 4, 5, 3, 5, 4, 5, 1, 5, 4, 5, 3, 5, 4, 5};
        for (int set = 0; set < 16; set++) {
            e.due(x, first[set], "together", set);
        }
        x.stove(5, 1);
        e.due(x, -9, "together", 1);
        e.due(x, -9, "together", 15);
        e.due(x, 4, "together", 14);
        e.due(x, 0, "together", 0);
        // A stove, or a frost told anew, takes an hour away.
        ColdOaths apart = Days.of("o55;p4;p4");
        apart.stove(0, 1);
        e.due(apart, 1, "together", 3);
        apart.frost(1, 0);
        e.due(apart, -9, "together", 3);
    }

    private void coated() {
        e.sentence(0, "COATED: the least SWEARER of a set who is COLD at no HOUR; NONE.");
        ColdOaths x = Days.of("o25;p5;p4;d3;b9");
        int[] least = {-9, 0, -9, 0, 2, 0, 2, 0, 3, 0, 3, 0, 2, 0, 2, 0};
        for (int set = 0; set < 16; set++) {
            e.due(x, least[set], "coated", set);
        }
        x.stove(1, 1);
        e.due(x, 1, "coated", 2);
        e.due(x, 1, "coated", 14);
        e.due(Days.of("o0;p9"), -9, "coated", 0);
        e.due(Days.of("o000001;p0"), -9, "coated", 1);
        e.due(Days.of("o000000;p0"), 0, "coated", 1);
    }

    private void letsGo(String text, int set) {
        ColdOaths x = Days.of(text);
        e.is(text + ", letgo(0)", x.letgo(0), Integer.bitCount(set));
        e.is(text + ", letgo(1)", x.letgo(1), set);
    }

    private void letGo() {
        e.sentence(0, "LET GO: the fewest OATHS that BIND and must be let go, so that nobody is BOUND to oneself by "
            + "those that are left; of several sets the least.");
        letsGo("o1;p0", 0);
        letsGo("o1;p0;p0", 0);
        letsGo("o1;p0;p0,010", 0);
        letsGo("o1;p0;p0,010,010,010,010,010,010", 0);
        letsGo("o1;p0;p0,010,100", 0b01);
        letsGo("o1;p0;p0,010,100,100", 0b001);
        letsGo("o1;p0;p0,010,010,100", 0b100);
        letsGo("o1;p0;p0,100,010,010,010,010,010", 0b000001);
        letsGo("o1;p0;p0,010,010,010,010,010,100", 0b100000);
        letsGo("o1;p0;p0,010,010,010,100,100,100", 0b000111);
        letsGo("o1;p0;p0,100,010,100,010,100,010", 0b010101);
        letsGo("o1;p0;p0;p0;p0,010,120,230,300", 0b0001);
        letsGo("o1;p0;p0;p0;p0,010,100,230,320", 0b0101);
        letsGo("o1;p0;p0;p0,010,100,120,210,200,020", 0b010110);
        // Of few, not of the least numbers: both rings go through the last oath.
        letsGo("o1;p0;p0;p0;p0,120,200,130,300,010", 0b10000);
        // Whoever is not cold is bound by nothing, so that there is no ring.
        letsGo("o1;p1;p0,010,100", 0);
        letsGo("o10;p0;p0,011,100,010", 0b010);
    }

    private void stovesByWhich() {
        e.sentence(0, "STOVES: HOUR and heat (0 .. 9) by which just the OATHS of a set, of all, do not BIND, "
            + "wherever a STOVE is now:");
        for (int now = -1; now < 3; now++) {
            ColdOaths x = Days.of("o940;p3;d2,010,100,011");
            x.stove(now < 0 ? -9 : now, 9);
            // Oath 2 fails by a heat of 1 at hour 1; oath 1 by 5, oath 0 by 6 at hour 0.
            e.due(x, 5 + 1 + 10, "stoves", 0b000, 0);
            e.due(x, 9, "stoves", 0b100, 0);
            e.due(x, 1, "stoves", 0b010, 0);
            e.due(x, 4, "stoves", 0b011, 0);
            e.due(x, 0, "stoves", 0b001, 0);
            e.due(x, 0, "stoves", 0b101, 0);
            e.due(x, 0, "stoves", 0b110, 0);
            e.due(x, 0, "stoves", 0b111, 0);
            e.due(x, now < 0 ? -9 : 9, "ofHour", Math.max(now, 0), 1);
        }
        // Frost 9 without a coat: only the hottest stove helps.
        ColdOaths hot = Days.of("o9;p0;p0,010");
        e.due(hot, 9, "stoves", 0, 0);
        e.due(hot, 1, "stoves", 1, 0);
        e.due(hot, 9, "stoves", 1, 2);
        // It is asked of how all is now, not of how a text that failed would have it.
        e.is("a text that fails", Days.tell(hot, "o00;p9;p9;p9,010,"), -100 - 17);
        e.due(hot, 1, "stoves", 1, 0);
        hot.coat(0, 3);
        hot.frost(0, 5);
        hot.swear(1, 0, 0);
        e.due(hot, 2, "stoves", 0, 0);
        e.due(hot, 3, "stoves", 1, 0);
        e.due(hot, 5, "stoves", 3, 0);
        // An oath that fails by itself fails by each stove.
        ColdOaths failed = Days.of("o05;p0;p0,010");
        e.due(failed, 0, "stoves", 0, 0);
        e.due(failed, 20, "stoves", 1, 0);
    }

    private void firstHourLeastHeat() {
        e.sentence(0, "how many such pairs there are; the first HOUR, the least heat there.");
        ColdOaths x = Days.of("o940;p3;d2,010,100,011");
        int[][] found = {{0b000, 16, 0, 0}, {0b100, 9, 1, 1}, {0b010, 1, 0, 5}, {0b011, 4, 0, 6}, {0b111, 0, -9, -9}};
        for (int[] f : found) {
            for (int what = 0; what < 3; what++) {
                e.due(x, f[1 + what], "stoves", f[0], what);
            }
        }
        ColdOaths last = Days.of("o999999;p0;p0,015");
        e.due(last, 1, "stoves", 1, 0);
        e.due(last, 5, "stoves", 1, 1);
        e.due(last, 9, "stoves", 1, 2);
        e.due(last, 59, "stoves", 0, 0);
    }

    private void promise13() {
        e.sentence(13, "BOUND: by how many; NONE (0 never; one may be BOUND to oneself).");
        ColdOaths x = Days.of("o1;p0;p0;p0,010,100");
        e.due(x, 2, "bound", 0, 0);
        e.due(x, 2, "bound", 1, 1);
        e.due(x, -9, "bound", 2, 2);
        e.due(x, 1, "bound", 0, 1);
        e.due(x, -9, "bound", 0, 2);
        e.due(Days.of("o9;p0"), -9, "bound", 0, 0);
        e.sentence(13, "UNKNOWN: either.");
        for (int wrong : new int[] {MIN, -9, -1, 3, 4, 32, MAX}) {
            e.due(x, -1, "bound", wrong, 0);
            e.due(x, -1, "bound", 0, wrong);
            e.due(x, -1, "bound", wrong, wrong);
        }
    }

    private void promise14() {
        e.sentence(14, "TOGETHER; NONE.");
        ColdOaths x = Days.of("o035;p4;b0");
        e.due(x, 0, "together", 0);
        e.due(x, 2, "together", 1);
        e.due(x, 1, "together", 2);
        e.due(x, 2, "together", 3);
        x.coat(0, 5);
        e.due(x, -9, "together", 3);
        e.sentence(14, "OUTSIDE: set (0 .. 15); STATE: there is no DAY; UNKNOWN: somebody of it is not there.");
        refusalsOfSets("together");
    }

    private void promise15() {
        e.sentence(15, "COATED; NONE.");
        ColdOaths x = Days.of("o035;p4;b4");
        e.due(x, -9, "coated", 0);
        e.due(x, -9, "coated", 1);
        e.due(x, 1, "coated", 2);
        e.due(x, 1, "coated", 3);
        x.coat(0, 5);
        e.due(x, 0, "coated", 3);
        e.sentence(15, "OUTSIDE: set (0 .. 15); STATE: there is no DAY; UNKNOWN: somebody of it is not there.");
        refusalsOfSets("coated");
    }

    private void refusalsOfSets(String call) {
        ColdOaths bare = new ColdOaths();
        for (int people = 0; people <= 4; people++) {
            ColdOaths x = people == 0 ? bare : Days.of("o5" + ";p5;p5;p5;p5".substring(0, 3 * people));
            for (int set : new int[] {MIN, -1, 16, 17, MAX}) {
                e.due(x, -2, call, set);
            }
            for (int set = 0; set < 16 && people > 0; set++) {
                e.is(people + " people, " + call + "(" + set + ") is UNKNOWN",
                    Call.of(x, call, set) == -1 ? 1 : 0, set >= 1 << people ? 1 : 0);
            }
        }
        for (int set = 0; set < 16; set++) {
            e.due(bare, -3, call, set);
        }
    }

    private void promise16() {
        e.sentence(16, "LET GO: how many (what 0), the least set (1).");
        ColdOaths x = Days.of("o1;p0;p0,010,010,100");
        e.due(x, 1, "letgo", 0);
        e.due(x, 4, "letgo", 1);
        x.release(2);
        e.due(x, 0, "letgo", 0);
        e.due(x, 0, "letgo", 1);
        e.due(Days.of("o1;p0"), 0, "letgo", 0);
        e.due(Days.of("o1;p0"), 0, "letgo", 1);
        e.sentence(16, "OUTSIDE; STATE: there is no DAY.");
        ColdOaths bare = new ColdOaths();
        for (int what : new int[] {MIN, -1, 2, MAX}) {
            e.due(x, -2, "letgo", what);
            e.due(bare, -2, "letgo", what);
        }
        e.due(bare, -3, "letgo", 0);
        e.due(bare, -3, "letgo", 1);
    }

    private void promise17() {
        e.sentence(17, "STOVES by which just the OATHS of a set fail: how many pairs (what 0), "
            + "the first HOUR (1; NONE), the least heat there (2; NONE).");
        ColdOaths x = Days.of("o59;p3;p0,011,101");
        int[][] found = {{0b00, 16, 0, 0}, {0b01, 3, 1, 6}, {0b10, 0, -9, -9}, {0b11, 1, 1, 9}};
        for (int[] f : found) {
            for (int what = 0; what < 3; what++) {
                e.due(x, f[1 + what], "stoves", f[0], what);
            }
        }
        ColdOaths no = Days.of("o555555;p3");
        e.due(no, 60, "stoves", 0, 0);
        e.due(no, 0, "stoves", 0, 1);
        e.due(no, 0, "stoves", 0, 2);
        ColdOaths six = Days.of("o5;p3;p3,010,010,010,010,010,010");
        e.due(six, 8, "stoves", 63, 0);
        e.due(six, 0, "stoves", 63, 1);
        e.due(six, 2, "stoves", 63, 2);

        e.sentence(17, "OUTSIDE: set (0 .. 63), what; STATE: there is no DAY; UNKNOWN: an OATH of it is not there.");
        ColdOaths bare = new ColdOaths();
        for (int set : new int[] {MIN, -1, 64, 65, MAX}) {
            e.due(bare, -2, "stoves", set, 0);
            e.due(six, -2, "stoves", set, 0);
            e.due(no, -2, "stoves", set, 3);
        }
        for (int what : new int[] {MIN, -1, 3, MAX}) {
            e.due(bare, -2, "stoves", 0, what);
            e.due(six, -2, "stoves", 0, what);
            e.due(no, -2, "stoves", 1, what);
        }
        for (int set : new int[] {0, 1, 63}) {
            e.due(bare, -3, "stoves", set, 0);
        }
        for (int n = 0; n <= 6; n++) {
            ColdOaths y = Days.of("o5;p3;p3" + ",010,010,010,010,010,010".substring(0, 4 * n));
            for (int set = 0; set < 64; set++) {
                e.is(n + " oaths, stoves(" + set + ", 0) is UNKNOWN", y.stoves(set, 0) == -1 ? 1 : 0,
                    set >= 1 << n ? 1 : 0);
            }
        }
    }
}
