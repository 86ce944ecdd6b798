/** Part 4 of the Terms, and promises 18 to 23. */
final class ColdEdges {
    private static final int MIN = Integer.MIN_VALUE, MAX = Integer.MAX_VALUE;
    private static final int ALL = 0b1111111111;

    private final Edges e;

    ColdEdges(Edges e) {
        this.e = e;
    }

    void run() {
        eightReadings();
        coldOrNot();
        inPlaceOfWhatItIsAlone();
        coatsFrom0To9();
        kindsFrom0To2();
        frostsFrom0To9();
        oddsOfRows();
        promise18();
        promise19();
        promises20To22();
        promise23();
    }

    private static ColdOaths read(String text, int... readings) {
        ColdOaths x = Days.of(text);
        for (int k = 0; k + 2 < readings.length; k += 3) {
            x.reading(readings[k], readings[k + 1], readings[k + 2]);
        }
        return x;
    }

    private void eightReadings() {
        e.sentence(0, "READINGS, 8 at most, numbered by how many there are:");
        ColdOaths x = Days.of("o5;p3");
        for (int k = 0; k < 8; k++) {
            e.due(x, k, "many", 4);
            e.due(x, k, "reading", 0, 0, 1);
        }
        e.due(x, -4, "reading", 0, 0, 0);
        e.due(x, 8, "many", 4);
        e.due(x, 0b11111, "coats", 0);
        x.back(1);
        e.due(x, 7, "reading", 0, 0, 0);
        e.due(x, 0, "coats", 0);
        e.due(x, -4, "reading", 0, 0, 1);
    }

    private void coldOrNot() {
        e.sentence(0, "at an HOUR a SWEARER is COLD (1) or not (0).");
        // A chill of 0 is not cold: with frost 5 a plain one in coat 5.
        e.due(read("o5;p3", 0, 0, 1), 0b0000011111, "coats", 0);
        e.due(read("o5;p3", 0, 0, 0), 0b1111100000, "coats", 0);
        e.due(read("o5;p3", 0, 0, 1, 0, 0, 0), 0, "coats", 0);
        e.due(read("o55;p3", 0, 0, 1, 0, 1, 0), 0, "coats", 0);
        e.due(read("o54;p3", 0, 0, 1, 0, 1, 0), 0b10000, "coats", 0);
    }

    private void inPlaceOfWhatItIsAlone() {
        e.sentence(0, "All that follows: in place of what it is alone, by which all READINGS are so:");
        // Swearer 1 in coat 9 is not cold, whatever swearer 0 wears.
        ColdOaths x = read("o55;p3;p9", 1, 0, 1);
        e.due(x, 0, "coats", 0);
        e.due(x, 0, "kinds", 0);
        e.due(x, 0, "frosts", 1);
        e.due(x, 0b11111, "coats", 1);
        e.due(x, 0, "frosts", 0);
        x.coat(1, 8);
        e.due(x, 0b1000000000, "frosts", 0);
        x.coat(1, 4);
        e.due(x, ALL, "coats", 0);
        e.due(x, 7, "kinds", 0);
        e.due(x, ALL, "frosts", 1);
        // The stove stays as it is.
        x.stove(0, 9);
        e.due(x, 0, "coats", 1);
        e.due(x, 0, "frosts", 0);
        x.stove(0, 4);
        e.due(x, 0b1, "coats", 1);
        e.due(x, 0b1000000000, "frosts", 0);
        // What is asked changes nothing.
        e.due(x, 4, "ofSwearer", 1, 1);
        e.due(x, 0, "ofSwearer", 1, 0);
        e.due(x, 5, "ofHour", 0, 0);
        e.due(x, 4, "ofHour", 0, 1);
        e.due(x, 1, "many", 4);
        ColdOaths without = Days.of("o55;p3;p9");
        e.due(without, ALL, "coats", 0);
        e.due(without, 7, "kinds", 1);
        e.due(without, ALL, "frosts", 0);
    }

    private void coatsFrom0To9() {
        e.sentence(0, "COATS of a SWEARER: COAT 0 .. 9;");
        e.due(read("o1;p5", 0, 0, 1), 1, "coats", 0);
        e.due(read("o0;p5", 0, 0, 1), 0, "coats", 0);
        e.due(read("o9;p5", 0, 0, 0), 1 << 9, "coats", 0);
        e.due(read("o9;p5", 0, 0, 1), ALL - (1 << 9), "coats", 0);
        e.due(read("o0;p5", 0, 0, 0), ALL, "coats", 0);
        e.due(read("o1;b5", 0, 0, 1), 0, "coats", 0);
        e.due(read("o9;b5", 0, 0, 1), 0b0011111111, "coats", 0);
        e.due(read("o9;b5", 0, 0, 0), 0b1100000000, "coats", 0);
        e.due(read("o9;d5", 0, 0, 1), 0b0000011111, "coats", 0);
        e.due(read("o9;d5", 0, 0, 0), 0b1111100000, "coats", 0);
        e.due(read("o1;d5", 0, 0, 1), 1, "coats", 0);
    }

    private void kindsFrom0To2() {
        e.sentence(0, "KINDS of a SWEARER: 0 .. 2;");
        for (char letter : new char[] {'p', 'b', 'd'}) {
            e.due(read("o5;" + letter + "2", 0, 0, 1), 0b111, "kinds", 0);
            e.due(read("o5;" + letter + "3", 0, 0, 1), 0b011, "kinds", 0);
            e.due(read("o5;" + letter + "4", 0, 0, 1), 0b001, "kinds", 0);
            e.due(read("o5;" + letter + "5", 0, 0, 1), 0, "kinds", 0);
            e.due(read("o5;" + letter + "5", 0, 0, 0), 0b111, "kinds", 0);
            e.due(read("o5;" + letter + "4", 0, 0, 0), 0b110, "kinds", 0);
            e.due(read("o5;" + letter + "3", 0, 0, 0), 0b100, "kinds", 0);
            // Without a coat the bearded one alone is warm.
            e.due(read("o1;" + letter + "0", 0, 0, 0), 0b010, "kinds", 0);
            e.due(read("o1;" + letter + "0", 0, 0, 1), 0b101, "kinds", 0);
            e.due(read("o54;" + letter + "3", 0, 0, 1, 0, 1, 0), 0b010, "kinds", 0);
        }
    }

    private void frostsFrom0To9() {
        e.sentence(0, "FROSTS of an HOUR: FROST 0 .. 9; as sets.");
        e.due(read("o5;p0", 0, 0, 1), ALL - 1, "frosts", 0);
        e.due(read("o5;p0", 0, 0, 0), 1, "frosts", 0);
        e.due(read("o5;p8", 0, 0, 1), 1 << 9, "frosts", 0);
        e.due(read("o5;p9", 0, 0, 1), 0, "frosts", 0);
        e.due(read("o5;p9", 0, 0, 0), ALL, "frosts", 0);
        e.due(read("o5;d4", 0, 0, 1), 1 << 9, "frosts", 0);
        e.due(read("o5;b8", 0, 0, 1), 0, "frosts", 0);
        e.due(read("o5;p3;p6", 0, 0, 1, 1, 0, 0), 0b0001110000, "frosts", 0);
        e.due(read("o5;p3;p6", 0, 0, 0, 1, 0, 1), 0, "frosts", 0);
    }

    private void odds(ColdOaths x, int s, int n, long upper, long lower) {
        e.due(x, upper, "odds", s, n, 0);
        e.due(x, lower, "odds", s, n, 1);
    }

    private void oddsOfRows() {
        e.sentence(0, "ODDS of n: if n of the HOURS are chosen, one behind another, each any one "
            + "(perhaps the same again), all rows alike: the share by which a SWEARER is COLD at all of them.");
        ColdOaths x = Days.of("o900000;p0;p9");
        long lower = 1;
        for (int n = 0; n <= 8; n++) {
            odds(x, 0, n, 1, lower);
            odds(x, 1, n, n == 0 ? 1 : 0, 1);
            lower *= 6;
        }
        ColdOaths half = Days.of("o9999;p0;p0");
        half.frost(0, 0);
        half.frost(1, 0);
        odds(half, 0, 8, 1, 256);
        half.stove(2, 9);
        odds(half, 0, 8, 1, 65536);
        half.stove(3, 8);
        odds(half, 1, 8, 1, 256);
        odds(Days.of("o99999;p0"), 0, 8, 1, 1);
        odds(Days.of("o99990;p0"), 0, 8, 65536, 390625);
        odds(Days.of("o9;p0"), 0, 8, 1, 1);
        odds(Days.of("o0;p0"), 0, 8, 0, 1);
        odds(Days.of("o0;p0"), 0, 0, 1, 1);
    }

    private void promise18() {
        e.sentence(18, "A READING: its number.");
        ColdOaths x = Days.of("o52;p3;p3");
        for (int k = 0; k < 8; k++) {
            e.due(x, k, "reading", k % 2, k / 2 % 2, k / 4 % 2);
        }
        e.sentence(18, "OUTSIDE: cold (0, 1); FULL.");
        for (int full = 0; full < 2; full++) {
            for (int cold : new int[] {MIN, -1, 2, MAX}) {
                e.due(x, -2, "reading", 0, 0, cold);
            }
            if (full == 0) {
                e.due(x, -4, "reading", 0, 0, 0);
                e.due(x, -4, "reading", 0, 0, 1);
                x.back(1);
            }
        }
        e.due(x, 7, "reading", 0, 0, 0);
        e.due(x, -4, "reading", 0, 0, 0);
        e.sentence(18, "UNKNOWN: SWEARER, HOUR;");
        for (int wrong : new int[] {MIN, -9, -1, 2, MAX}) {
            e.due(x, -1, "reading", wrong, 0, 0);
            e.due(x, -1, "reading", 0, wrong, 0);
            e.due(x, -1, "reading", wrong, 0, 2);
            e.due(x, -1, "reading", 0, wrong, 2);
        }
        e.due(x, 8, "many", 4);
        e.due(new ColdOaths(), -1, "reading", 0, 0, 0);
    }

    private void promise19() {
        e.sentence(19, "The last n READINGS (0 .. as many as there are) are taken back: how many are left.");
        for (int there = 0; there <= 8; there++) {
            for (int n = 0; n <= there; n++) {
                ColdOaths x = Days.of("o5;p3");
                for (int k = 0; k < there; k++) {
                    x.reading(0, 0, 1);
                }
                e.due(x, there - n, "back", n);
                e.due(x, there - n, "many", 4);
                e.due(x, there - n < 8 ? there - n : -4, "reading", 0, 0, 1);
            }
        }
        ColdOaths x = read("o54;p3", 0, 0, 1, 0, 1, 0, 0, 0, 0);
        e.due(x, 0, "coats", 0);
        e.due(x, 2, "back", 1);
        e.due(x, 0b10000, "coats", 0);
        e.due(x, 1, "back", 1);
        e.due(x, 0b11111, "coats", 0);
        e.due(x, 0, "back", 1);
        e.due(x, ALL, "coats", 0);
        e.due(new ColdOaths(), 0, "back", 0);
        e.sentence(19, "OUTSIDE.");
        for (int there = 0; there <= 8; there++) {
            ColdOaths y = Days.of("o5;p3");
            for (int k = 0; k < there; k++) {
                y.reading(0, 0, 1);
            }
            for (int n : new int[] {MIN, -1, there + 1, 9, MAX}) {
                e.due(y, -2, "back", n);
            }
            e.due(y, there, "many", 4);
        }
        e.due(new ColdOaths(), -2, "back", 1);
        e.due(new ColdOaths(), -2, "back", -1);
    }

    private void promises20To22() {
        ColdOaths x = read("o52;p3;d3", 0, 0, 1);
        ColdOaths bare = new ColdOaths();
        e.sentence(20, "COATS, as a set.");
        e.due(x, 0b11111, "coats", 0);
        e.due(x, ALL, "coats", 1);
        e.sentence(20, "UNKNOWN.");
        unknown(x, bare, "coats");
        e.sentence(21, "KINDS, as a set.");
        e.due(x, 0b011, "kinds", 0);
        e.due(x, 0b111, "kinds", 1);
        e.sentence(21, "UNKNOWN.");
        unknown(x, bare, "kinds");
        e.sentence(22, "FROSTS, as a set.");
        e.due(x, 0b1111110000, "frosts", 0);
        e.due(x, ALL, "frosts", 1);
        e.sentence(22, "UNKNOWN.");
        unknown(x, bare, "frosts");
    }

    private void unknown(ColdOaths x, ColdOaths bare, String call) {
        for (int wrong : new int[] {MIN, -9, -1, 2, 4, 6, MAX}) {
            e.due(x, -1, call, wrong);
        }
        e.due(bare, -1, call, 0);
    }

    private void promise23() {
        e.sentence(23, "ODDS of n (0 .. 8; which 0 the upper, 1 the lower number).");
        ColdOaths x = Days.of("o111110;p0");
        odds(x, 0, 0, 1, 1);
        odds(x, 0, 1, 5, 6);
        odds(x, 0, 2, 25, 36);
        odds(x, 0, 8, 390625, 1679616);
        e.sentence(23, "LOST: UNKNOWN; OUTSIDE.");
        long lost = Long.MIN_VALUE;
        e.is("LOST", ColdOaths.LOST, lost);
        for (int wrong : new int[] {MIN, -1, 1, 4, MAX}) {
            odds(x, wrong, 0, lost, lost);
        }
        for (int wrong : new int[] {MIN, -1, 9, MAX}) {
            odds(x, 0, wrong, lost, lost);
        }
        for (int wrong : new int[] {MIN, -1, 2, MAX}) {
            e.due(x, lost, "odds", 0, 0, wrong);
            e.due(x, lost, "odds", 0, 8, wrong);
        }
        odds(new ColdOaths(), 0, 0, lost, lost);
        e.is("odds names no fault", x.fault(), 0);
    }
}
