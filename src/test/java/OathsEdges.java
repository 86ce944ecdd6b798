import java.util.Arrays;

/** Part 2 of the Terms, and promises 9 to 12. */
final class OathsEdges {
    private static final int MIN = Integer.MIN_VALUE, MAX = Integer.MAX_VALUE;
    /** Six hours and four swearers, so that every act can be. */
    private static final String WIDE = "o555555;p5;b5;d5;p5,010,121,232,303,014,125";
    /** One of each alone, so that hardly an act can be. */
    private static final String NARROW = "o5;p4";
    private static final int[] WHATS = {0, 1, 2, 3, 4, 10, 11, 12, 13};

    private final Edges e;

    OathsEdges(Edges e) {
        this.e = e;
    }

    void run() {
        oneStoveAtMost();
        caseFromHowAllIs();
        coatAct();
        frostAct();
        releaseAct();
        stoveAct();
        noStoveAct();
        firstWrong();
        promise9();
        promise10();
        promise11();
        promise11Refused();
        promise12Answers();
        promise12FirstWrong();
        promise12Refused();
        promise12Pairs();
    }

    /** A case told by ints of sheet 1. */
    private void trial(ColdOaths x, long want, int what, int... pairs) {
        Days.numbers(x, 1, 2, pairs);
        String told = "trial of " + Arrays.toString(pairs) + ", what " + what;
        e.is(told, x.trial(1, 2, 0, pairs.length / 2, what), want);
        e.is(told + ", then fault()", x.fault(), 0);
    }

    private void oneStoveAtMost() {
        e.sentence(0, "COATS, FROST are told anew, OATHS are sworn, let go, a STOVE is put somewhere "
            + "(there is one at most).");
        ColdOaths x = Days.of(WIDE);
        for (int h = 0; h < 6; h++) {
            x.stove(h, h);
            for (int k = 0; k < 6; k++) {
                e.due(x, k == h ? h : -9, "ofHour", k, 1);
                e.due(x, k == h ? 100 - h : 100, "chill", 0, k);
            }
        }
    }

    /** A day that is not as its text told it, and a case in sheet 1. */
    private static ColdOaths changed(int[] pairs) {
        ColdOaths x = Days.of(WIDE);
        x.coat(0, 4);
        x.frost(5, 9);
        x.stove(0, 1);
        x.release(5);
        x.reading(0, 0, 1);
        Days.numbers(x, 1, 2, pairs);
        return x;
    }

    private void caseFromHowAllIs() {
        e.sentence(0, "A CASE told: a row of pairs, one behind another, from how all is now (nothing is changed):");
        int[] pairs = {3, 0, 9, 4, 0, 10, 2, 12, 8, 9, 0, 17, 0, 3};
        ColdOaths tried = changed(pairs);
        for (int what : WHATS) {
            tried.trial(1, 2, 0, 7, what);
        }
        e.clean(tried, 4, "trial", 1, 2, 0, 7, 2);
        e.same("nothing is changed", State.of(tried), State.of(changed(pairs)));
        ColdOaths x = Days.of("o5;p4");
        trial(x, 1, 10);
        trial(x, 0, 10, 9, 0);
        trial(x, 1, 10, 9, 0, 4, 0);
        trial(x, 0, 10, 4, 0, 9, 0);
        trial(x, 1, 10);
        x.coat(0, 5);
        trial(x, 0, 10);
        x.frost(0, 6);
        trial(x, 1, 10);
        x.stove(0, 1);
        trial(x, 0, 10);
    }

    private void coatAct() {
        e.sentence(0, "a COAT (0 .. 9) and 0 .. 3: COAT of that SWEARER becomes that;");
        for (int s = 0; s < 4; s++) {
            // The double one is cold with coat 2 and not with 3; the bearded one up to 3.
            ColdOaths x = Days.of(WIDE);
            int most = s == 1 ? 3 : s == 2 ? 2 : 4;
            for (int v = 0; v <= 9; v++) {
                trial(x, v <= most ? 63 : 0, 10 + s, v, s);
                trial(x, v <= most ? 6 : 0, 3, v, s);
            }
            trial(x, -2, 0, 10, s);
            trial(x, -2, 0, -1, s);
        }
        ColdOaths one = Days.of(NARROW);
        trial(one, -9, 1, 0, 0);
        trial(one, 0, 1, 0, 1);
        trial(one, 0, 1, 9, 3);
    }

    private void frostAct() {
        e.sentence(0, "FROST (0 .. 9) and 4 .. 9: that of the HOUR that is 4 less becomes that;");
        for (int h = 0; h < 6; h++) {
            ColdOaths x = Days.of(WIDE);
            for (int v = 0; v <= 9; v++) {
                trial(x, v > 5 ? 1 << h : 0, 10, v, 4 + h);
                trial(x, v > 6 ? 1 << h : 0, 11, v, 4 + h);
            }
            trial(x, -2, 0, 10, 4 + h);
            trial(x, -2, 0, -1, 4 + h);
        }
        ColdOaths one = Days.of(NARROW);
        trial(one, -9, 1, 0, 4);
        trial(one, 0, 1, 0, 5);
        trial(one, 0, 1, 9, 9);
    }

    private void releaseAct() {
        e.sentence(0, "an OATH (0 .. 5) and 10: it is let go (those behind it have one number less);");
        // Oaths 0, 2, 5 bind.
        ColdOaths x = Days.of("o10;p0;p0,010,011,100,011,101,100");
        int[] left = {0b10010, 0b10011, 0b10001, 0b10101, 0b10101, 0b00101};
        for (int i = 0; i < 6; i++) {
            trial(x, left[i], 0, i, 10);
            trial(x, 5, 2, i, 10);
        }
        trial(x, -2, 0, 6, 10);
        trial(x, -2, 0, -1, 10);
        trial(x, 0b1011, 0, 1, 10, 2, 10);
        trial(x, 0, 2, 5, 10, 4, 10, 3, 10, 2, 10, 1, 10, 0, 10);
        trial(x, 0, 2, 0, 10, 0, 10, 0, 10, 0, 10, 0, 10, 0, 10);
        trial(x, 6, 1, 0, 10, 0, 10, 0, 10, 0, 10, 0, 10, 0, 10, 0, 10);
        trial(x, 1, 1, 5, 10, 5, 10);
    }

    private void stoveAct() {
        e.sentence(0, "a heat (0 .. 9) and 11 .. 16: the STOVE is put, so hot, at the HOUR that is 11 less;");
        for (int h = 0; h < 6; h++) {
            ColdOaths x = Days.of("o555555;p0;p0;p0;p3,010");
            for (int v = 0; v <= 9; v++) {
                trial(x, v < 5 ? 63 : 63 - (1 << h), 10, v, 11 + h);
                trial(x, v < 2 ? 63 : 63 - (1 << h), 13, v, 11 + h);
            }
            trial(x, -2, 0, 10, 11 + h);
            trial(x, -2, 0, -1, 11 + h);
            trial(x, 63 - (1 << h), 10, 9, 11 + (h + 1) % 6, 9, 11 + h);
        }
        ColdOaths one = Days.of(NARROW);
        trial(one, -9, 1, 0, 11);
        trial(one, 0, 1, 0, 12);
        trial(one, 0, 1, 9, 16);
        one.stove(0, 9);
        trial(one, 0, 10);
        trial(one, 1, 10, 0, 11);
    }

    private void noStoveAct() {
        e.sentence(0, "0 and 17: there is no STOVE.");
        ColdOaths x = Days.of(NARROW);
        trial(x, 1, 10, 0, 17);
        trial(x, 1, 10, 0, 17, 0, 17);
        x.stove(0, 9);
        trial(x, 0, 10);
        trial(x, 1, 10, 0, 17);
        trial(x, 0, 10, 0, 17, 1, 11);
        trial(x, 1, 10, 1, 11, 0, 17);
        e.due(x, 9, "ofHour", 0, 1);
        for (int v : new int[] {MIN, -1, 1, 9, MAX}) {
            trial(x, -2, 1, v, 17);
        }
    }

    private void firstWrong() {
        e.sentence(0, "FIRST WRONG: the first act that can't be (there is no such SWEARER, HOUR, OATH).");
        ColdOaths x = Days.of(NARROW);
        for (int s = 1; s <= 3; s++) {
            trial(x, 0, 1, 0, s);
        }
        for (int h = 1; h <= 5; h++) {
            trial(x, 0, 1, 0, 4 + h);
            trial(x, 0, 1, 0, 11 + h);
        }
        for (int i = 0; i <= 5; i++) {
            trial(x, 0, 1, i, 10);
        }
        trial(x, -9, 1, 0, 0, 0, 4, 0, 11, 0, 17);
        trial(x, 3, 1, 0, 0, 0, 4, 0, 11, 0, 1, 0, 2, 0, 17);
        trial(Days.of(WIDE), -9, 1, 0, 3, 0, 9, 0, 16, 5, 10, 4, 10);
        trial(Days.of(WIDE), 5, 1, 0, 3, 0, 9, 0, 16, 5, 10, 4, 10, 4, 10);
        int[] last = new int[40];
        last[39] = 3;
        trial(x, 19, 1, last);
        trial(x, -119, 0, last);
    }

    private void promise9() {
        e.sentence(9, "An OATH is sworn by one to another at an HOUR: its number.");
        ColdOaths x = Days.of("o59;p3;b2");
        for (int i = 0; i < 6; i++) {
            e.due(x, i, "swear", i % 2, 1 - i % 2, i / 2 % 2);
            e.due(x, i % 2, "ofOath", i, 0);
            e.due(x, 1 - i % 2, "ofOath", i, 1);
            e.due(x, i / 2 % 2, "ofOath", i, 2);
            e.due(x, i + 1, "many", 2);
        }
        e.sentence(9, "FULL: there are 6.");
        e.due(x, -4, "swear", 0, 1, 0);
        e.due(x, 6, "many", 2);
        x.release(2);
        e.due(x, 5, "swear", 1, 0, 1);
        e.due(x, -4, "swear", 0, 1, 0);
        e.due(Days.of(WIDE), -4, "swear", 0, 1, 0);

        e.sentence(9, "UNKNOWN: SWEARER, SWEARER (the same, too), HOUR;");
        x.release(0);
        for (int round = 0; round < 2; round++) {
            for (int wrong : new int[] {MIN, -1, 2, MAX}) {
                e.due(x, -1, "swear", wrong, 0, 0);
                e.due(x, -1, "swear", 0, wrong, 0);
                e.due(x, -1, "swear", wrong, wrong, 0);
                e.due(x, -1, "swear", 0, 1, wrong);
            }
            e.due(x, -1, "swear", 0, 0, 0);
            e.due(x, -1, "swear", 1, 1, 1);
            e.due(x, 5 + round, "many", 2);
            x.swear(0, 1, 0);
        }
        e.due(Days.of("o5;p3"), -1, "swear", 0, 0, 0);
        e.due(Days.of("o5;p3"), -1, "swear", 0, 1, 0);
    }

    private void promise10() {
        e.sentence(10, "An OATH is let go (those behind it have one number less): how many are left.");
        for (int gone = 0; gone < 6; gone++) {
            ColdOaths x = Days.of(WIDE);
            e.due(x, 5, "release", gone);
            for (int i = 0; i < 5; i++) {
                // In this text oath i is sworn at hour i.
                e.due(x, i < gone ? i : i + 1, "ofOath", i, 2);
                e.due(x, (i < gone ? i : i + 1) % 4, "ofOath", i, 0);
                e.due(x, ((i < gone ? i : i + 1) + 1) % 4, "ofOath", i, 1);
            }
            e.due(x, -1, "ofOath", 5, 0);
        }
        ColdOaths x = Days.of(WIDE);
        for (int left = 5; left >= 0; left--) {
            e.due(x, left, "release", left);
        }
        e.sentence(10, "UNKNOWN.");
        e.due(x, -1, "release", 0);
        x.swear(0, 1, 0);
        for (int wrong : new int[] {MIN, -1, 1, 6, MAX}) {
            e.due(x, -1, "release", wrong);
        }
        e.due(x, 1, "many", 2);
        e.due(Days.of(WIDE), -1, "release", 6);
    }

    private void promise11() {
        e.sentence(11, "A STOVE of heat v (0 .. 9) is put at an HOUR (NONE: there is no STOVE then, whatever v is): "
            + "how many OATHS BIND then.");
        ColdOaths x = Days.of("o59;p3;b2,010,011,100,101");
        int[] atFirst = {4, 4, 2, 2, 2, 2, 2, 2, 2, 2};
        int[] atSecond = {4, 4, 4, 4, 4, 4, 2, 2, 2, 2};
        for (int v = 0; v <= 9; v++) {
            e.due(x, atFirst[v], "stove", 0, v);
            e.due(x, v, "ofHour", 0, 1);
            e.due(x, atSecond[v], "stove", 1, v);
            e.due(x, -9, "ofHour", 0, 1);
            e.due(x, v, "ofHour", 1, 1);
        }
        for (int v : new int[] {MIN, -9, -1, 0, 9, 10, MAX}) {
            x.stove(1, 9);
            e.due(x, 4, "stove", -9, v);
            e.due(x, -9, "ofHour", 1, 1);
            e.due(x, 4, "stove", -9, v);
        }
        e.due(Days.of(NARROW), 0, "stove", 0, 0);
    }

    private void promise11Refused() {
        e.sentence(11, "UNKNOWN: HOUR; OUTSIDE;");
        ColdOaths x = Days.of("o59;p3;b2");
        x.stove(1, 3);
        for (int h : new int[] {MIN, -10, -8, -1, 2, 6, MAX}) {
            e.due(x, -1, "stove", h, 0);
            e.due(x, -1, "stove", h, 10);
        }
        for (int v : new int[] {MIN, -9, -1, 10, MAX}) {
            e.due(x, -2, "stove", 0, v);
            e.due(x, -2, "stove", 1, v);
        }
        e.due(x, 3, "ofHour", 1, 1);

        e.sentence(11, "STATE: there is no DAY (ahead of all).");
        ColdOaths bare = new ColdOaths();
        for (int h : new int[] {MIN, -9, -1, 0, 6, MAX}) {
            e.due(bare, -3, "stove", h, 0);
            e.due(bare, -3, "stove", h, 10);
        }
        Days.tell(bare, "o5;p");
        e.due(bare, -3, "stove", 0, 0);
        Days.tell(bare, NARROW);
        e.due(bare, 0, "stove", 0, 0);
    }

    private void promise12Answers() {
        e.sentence(12, "A CASE of n pairs, that are cells of a SHEET from i on (2 n):");
        for (int lane = 0; lane < 3; lane++) {
            ColdOaths x = Days.of(NARROW);
            Days.numbers(x, 2, lane, 77, 77, 77, 9, 0, 3, 0, 77);
            e.clean(x, 1, "trial", 2, lane, 3, 0, 10);
            e.clean(x, 0, "trial", 2, lane, 3, 1, 10);
            e.clean(x, 1, "trial", 2, lane, 3, 2, 10);
            e.clean(x, -2, "trial", 2, lane, 2, 1, 10);
            e.clean(x, 1, "trial", 2, lane, 8, 0, 10);
            e.fails(x, 3, "trial", 2, lane, 3, 3, 10);
        }
        ColdOaths x = Days.of(NARROW);
        x.sheet(3, 0, 60);
        x.put(3, 58, 9);
        e.clean(x, 0, "trial", 3, 0, 20, 20, 10);
        e.clean(x, 1, "trial", 3, 0, 19, 19, 10);
        e.fails(x, 3, "trial", 3, 0, 21, 20, 10);

        e.sentence(12, "which OATHS BIND then, as a set (what 0),");
        ColdOaths w = Days.of(WIDE);
        trial(w, 0, 0);
        trial(w, 0b010001, 0, 4, 0);
        trial(w, 0b111111, 0, 0, 0, 0, 1, 0, 2, 0, 3);
        trial(x, 0, 0);
        e.sentence(12, "its FIRST WRONG (1; NONE),");
        trial(w, -9, 1);
        trial(w, -9, 1, 9, 16);
        trial(x, 0, 1, 9, 16);
        trial(x, 1, 1, 9, 11, 9, 16);
        e.sentence(12, "how many OATHS there are then (2),");
        trial(w, 6, 2);
        trial(w, 5, 2, 5, 10);
        trial(x, 0, 2);
        e.sentence(12, "how many times somebody is COLD at an HOUR then (3; all SWEARERS, all HOURS),");
        trial(w, 0, 3);
        trial(w, 24, 3, 0, 0, 0, 1, 0, 2, 0, 3);
        trial(w, 3, 3, 7, 4);
        trial(x, 1, 3);
        e.sentence(12, "the fewest OATHS to be LET GO then (4),");
        trial(w, 0, 4);
        trial(w, 1, 4, 0, 0, 0, 1, 0, 2, 0, 3);
        trial(Days.of("o1;p0;p0,010,010,010,100,100,100"), 3, 4);
        trial(Days.of("o1;p0;p0,010,010,010,100,100,100"), 2, 4, 5, 10);
        trial(x, 0, 4);
        e.sentence(12, "HOURS at which SWEARER s is COLD then, as a set (10 and s; NONE: there is no such SWEARER);");
        for (int s = 0; s < 4; s++) {
            trial(w, 63, 10 + s, 0, s);
            trial(x, s == 0 ? 1 : -9, 10 + s);
            trial(Days.of("o5;p5;p5;p5"), s < 3 ? 0 : -9, 10 + s);
        }
    }

    private void promise12FirstWrong() {
        e.sentence(12, "of one with a FIRST WRONG: -100 less that (but what 1).");
        ColdOaths x = Days.of(NARROW);
        for (int what : WHATS) {
            trial(x, what == 1 ? 0 : -100, what, 0, 1);
            trial(x, what == 1 ? 1 : -101, what, 0, 0, 0, 1);
            trial(x, what == 1 ? 1 : -101, what, 0, 0, 0, 1, 0, 0, 0, 2);
        }
    }

    private void promise12Refused() {
        ColdOaths x = Days.of(NARROW);
        Days.numbers(x, 1, 1, 0, 0, 0);
        e.sentence(12, "UNKNOWN: SHEET; OUTSIDE: lane, n (0 .. 20), what (0 .. 4, 10 .. 13);");
        for (int wrong : new int[] {MIN, -1, 4, MAX}) {
            e.clean(x, -1, "trial", wrong, 1, 0, 1, 0);
            e.clean(x, -1, "trial", wrong, 3, -1, 21, 5);
        }
        for (int wrong : new int[] {MIN, -1, 3, MAX}) {
            e.clean(x, -2, "trial", 1, wrong, 0, 1, 0);
            e.clean(x, -2, "trial", 3, wrong, -1, 1, 0);
        }
        for (int wrong : new int[] {MIN, -1, 21, 1 << 30, 1 << 31, MAX}) {
            e.clean(x, -2, "trial", 1, 1, 0, wrong, 0);
            e.clean(x, -2, "trial", 3, 1, -1, wrong, 0);
        }
        for (int wrong : new int[] {MIN, -9, -1, 5, 6, 9, 14, 15, MAX}) {
            e.clean(x, -2, "trial", 1, 1, 0, 1, wrong);
            e.clean(x, -2, "trial", 3, 1, -1, 1, wrong);
        }

        e.sentence(12, "FAULTS CAST, NULL, INDEX;");
        ColdOaths bare = new ColdOaths();
        Days.numbers(bare, 1, 1, 0, 18, 0);
        for (ColdOaths y : new ColdOaths[] {x, bare}) {
            for (int lane = 0; lane < 3; lane++) {
                e.fails(y, 1, "trial", 3, lane, -1, 20, 0);
            }
            e.fails(y, 2, "trial", 1, 0, -1, 20, 0);
            e.fails(y, 2, "trial", 1, 2, 0, 0, 0);
            e.fails(y, 3, "trial", 1, 1, -1, 0, 0);
            e.fails(y, 3, "trial", 1, 1, 4, 0, 0);
            e.fails(y, 3, "trial", 1, 1, 0, 2, 0);
            e.fails(y, 3, "trial", 1, 1, 2, 1, 0);
            e.fails(y, 3, "trial", 1, 1, 0, 20, 0);
            e.fails(y, 3, "trial", 1, 1, MAX, 1, 0);
            e.fails(y, 3, "trial", 1, 1, MAX, 20, 0);
            e.fails(y, 3, "trial", 1, 1, MIN, 20, 0);
        }
        e.clean(x, -9, "trial", 1, 1, 1, 1, 1);
        e.clean(x, -9, "trial", 1, 1, 3, 0, 1);

        e.sentence(12, "STATE: there is no DAY;");
        for (int what : WHATS) {
            e.clean(bare, -3, "trial", 1, 1, 0, 0, what);
            e.clean(bare, -3, "trial", 1, 1, 0, 1, what);
        }
    }

    private void promise12Pairs() {
        e.sentence(12, "pair by pair OUTSIDE: the second is not 0 .. 17, the first is not as told with it.");
        for (int what : WHATS) {
            ColdOaths x = Days.of(WIDE);
            for (int second : new int[] {MIN, -1, 18, MAX}) {
                trial(x, -2, what, 0, second);
            }
        }
        for (int second = 0; second <= 17; second++) {
            ColdOaths x = Days.of(WIDE);
            int most = second == 17 ? 0 : second == 10 ? 5 : 9;
            trial(x, -9, 1, 0, second);
            trial(x, -9, 1, most, second);
            for (int first : new int[] {MIN, -1, most + 1, 10, MAX}) {
                trial(x, -2, 1, first, second);
                trial(x, -2, 0, 0, 0, first, second);
                trial(x, -2, 0, first, second, 0, 0);
            }
        }
        // The first is looked at whether or not there is such a swearer, hour, oath.
        ColdOaths one = Days.of(NARROW);
        trial(one, -2, 1, 10, 1);
        trial(one, -2, 1, 10, 5);
        trial(one, -2, 1, 6, 10);
        trial(one, -2, 1, 10, 12);
        // A row with such a pair is no case, so that it has no act that can't be.
        trial(one, -2, 1, 0, 1, 0, 18);
        trial(one, -2, 0, 0, 1, 10, 0);
        int[] last = new int[40];
        last[38] = 1;
        last[39] = 17;
        trial(Days.of(WIDE), -2, 0, last);
    }
}
