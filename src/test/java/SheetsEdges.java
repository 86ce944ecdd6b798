/** Part 5 of the Terms, and promises 24 to 34. */
final class SheetsEdges {
    private static final int MIN = Integer.MIN_VALUE, MAX = Integer.MAX_VALUE;
    private static final long LOST = Long.MIN_VALUE;
    /** One of each kind in coat 9, who swore 3, 2, 1 oaths. */
    private static final String EACH = "o5;p9;b9;d9,010,010,020,100,120,200";

    private final Edges e;

    SheetsEdges(Edges e) {
        this.e = e;
    }

    void run() {
        nothingAtFirst();
        rows();
        cutToLane();
        traceOfBodies();
        plainBody();
        beardedBody();
        doubleBody();
        pinched();
        promise24();
        promise25();
        promise26();
        promise27();
        promise28();
        promise28Refused();
        promises29And30();
        promise31();
        promise32();
        promise33();
        promise33ByEachCall();
        promise34();
    }

    private void nothingAtFirst() {
        e.sentence(0, "SHEETS 0 .. 3 have nothing (at first),");
        ColdOaths x = new ColdOaths();
        for (int k = 0; k < 4; k++) {
            e.fails(x, 1, "put", k, 0, 0);
            e.fails(x, 1, "cell", k, 0, 0);
            e.due(x, 0, "lose", k);
            e.due(x, 1, "sheet", k, k % 3, 1);
            e.due(x, 1, "put", k, 0, k + 1);
        }
        for (int k = 0; k < 4; k++) {
            e.due(x, k + 1, "cell", k, 0, k % 3);
        }
        for (int k : new int[] {MIN, -1, 4, MAX}) {
            e.due(x, -1, "sheet", k, 0, 1);
            e.due(x, -1, "put", k, 0, 0);
            e.due(x, -1, "lose", k);
        }
    }

    private void rows() {
        e.sentence(0, "or a row of 0 .. 60 numbers (0 at first) of a LANE: 0 bytes, 1 shorts, 2 ints;");
        for (int lane = 0; lane < 3; lane++) {
            for (int n : new int[] {0, 1, 59, 60}) {
                ColdOaths x = new ColdOaths();
                e.clean(x, 1, "sheet", 0, lane, n);
                for (int i = 0; i < n; i++) {
                    e.due(x, 0, "cell", 0, i, lane);
                }
                e.fails(x, 3, "cell", 0, n, lane);
                e.fails(x, 3, "put", 0, n, 1);
            }
            ColdOaths x = new ColdOaths();
            e.clean(x, -2, "sheet", 0, lane, 61);
        }
        // A row that had numbers has them no more when it comes again.
        ColdOaths x = new ColdOaths();
        Days.numbers(x, 0, 2, 7, 8, 9);
        x.sheet(0, 2, 1);
        e.due(x, 0, "cell", 0, 0, 2);
        x.sheet(0, 2, 3);
        e.due(x, 0, "cell", 0, 2, 2);
        x.put(0, 2, 5);
        x.lose(0);
        x.sheet(0, 1, 3);
        e.due(x, 0, "cell", 0, 2, 1);
    }

    private void cutToLane() {
        e.sentence(0, "what comes to a cell of it is cut to its LANE.");
        ColdOaths x = new ColdOaths();
        for (int lane = 0; lane < 3; lane++) {
            x.sheet(lane, lane, 1);
        }
        int[] told = {0, 127, 128, 255, 256, -1, -128, -129, -256, -257, 32767, 32768, 65535, 65536, -32768, -32769,
            -65536, MAX, MIN, MAX - 127, MIN + 128};
        int[] bytes = {0, 127, -128, -1, 0, -1, -128, 127, 0, -1, -1, 0, -1, 0, 0, -1, 0, -1, 0, -128, -128};
        int[] shorts = {0, 127, 128, 255, 256, -1, -128, -129, -256, -257, 32767, -32768, -1, 0, -32768, 32767,
            0, -1, 0, -128, 128};
        for (int k = 0; k < told.length; k++) {
            for (int lane = 0; lane < 3; lane++) {
                e.due(x, 1, "put", lane, 0, told[k]);
            }
            e.due(x, bytes[k], "cell", 0, 0, 0);
            e.due(x, shorts[k], "cell", 1, 0, 1);
            e.due(x, told[k], "cell", 2, 0, 2);
        }
    }

    private void traceOfBodies() {
        e.sentence(0, "TELLING of SWEARERS by bodies that leave their number in TRACE (an int that wraps, 0 at first, "
            + "becomes 31 times it and the number) as they begin:");
        ColdOaths x = Days.of(EACH);
        e.due(x, 0, "trace");
        x.tell(0);
        e.due(x, 1, "trace");
        x.tell(0);
        e.due(x, 32, "trace");
        for (int k = 0; k < 4; k++) {
            x.tell(0);
        }
        e.due(x, 29583456, "trace");
        x.tell(0);
        // This is still an int; the next one wraps, to below 0.
        e.due(x, 917087137, "trace");
        x.tell(0);
        e.due(x, (int) (31L * 917087137L + 1L), "trace");
        e.due(x, 31L * 917087137L + 1L - (1L << 32) * 7, "trace");
        ColdOaths pinched = Days.of(EACH);
        for (int k = 0; k < 5; k++) {
            pinched.pinch(2);
        }
        e.due(pinched, 5 * (1 + 31 + 961 + 29791 + 923521), "trace");
    }

    private void plainBody() {
        e.sentence(0, "PLAIN (1): COAT.");
        ColdOaths x = Days.of("o5;p9;p0");
        e.due(x, 9, "tell", 0);
        e.due(x, 1, "trace");
        e.due(x, 0, "tell", 1);
        e.due(x, 32, "trace");
    }

    private void beardedBody() {
        e.sentence(0, "BEARDED (2): what PLAIN's gives, and 100.");
        ColdOaths x = Days.of("o5;b9;b0");
        e.due(x, 109, "tell", 0);
        e.due(x, 63, "trace");
        e.due(x, 100, "tell", 1);
        e.due(x, (63 * 31 + 2) * 31 + 1, "trace");
    }

    private void doubleBody() {
        e.sentence(0, "DOUBLE (3): what BEARDED's gives, and what PLAIN's gives (BEARDED's left out).");
        ColdOaths x = Days.of("o5;d9;d0");
        e.due(x, 118, "tell", 0);
        e.due(x, ((3 * 31 + 2) * 31 + 1) * 31 + 1, "trace");
        e.due(x, 100, "tell", 1);
        x.coat(1, 1);
        e.due(x, 102, "tell", 1);
    }

    private void pinched() {
        e.sentence(0, "PINCHED by a lent body (4): how many OATHS they swore; DOUBLE ones have their own (5): 80.");
        ColdOaths x = Days.of(EACH);
        e.due(x, 3, "pinch", 0);
        e.due(x, 4, "trace");
        e.due(x, 2, "pinch", 1);
        e.due(x, 128, "trace");
        e.due(x, 80, "pinch", 2);
        e.due(x, 128 * 31 + 5, "trace");
        ColdOaths none = Days.of("o5;p0;b0;d0,200,200,200,200,200,200");
        e.due(none, 0, "pinch", 0);
        e.due(none, 0, "pinch", 1);
        e.due(none, 80, "pinch", 2);
        e.due(Days.of("o5;b9;p0,010,010,010,010,010,010"), 6, "pinch", 0);
    }

    private void promise24() {
        e.sentence(24, "A SHEET gets a new row: 1.");
        ColdOaths x = new ColdOaths();
        e.clean(x, 1, "sheet", 0, 0, 0);
        e.clean(x, 1, "sheet", 0, 2, 60);
        e.clean(x, 1, "sheet", 3, 1, 60);
        x.put(0, 59, 300);
        e.clean(x, 1, "sheet", 3, 0, 2);
        e.due(x, 300, "cell", 0, 59, 2);
        e.sentence(24, "UNKNOWN; OUTSIDE: lane, n above 60;");
        for (int k : new int[] {MIN, -1, 4, MAX}) {
            e.clean(x, -1, "sheet", k, 0, 1);
            e.clean(x, -1, "sheet", k, 3, -1);
            e.clean(x, -1, "sheet", k, 0, 61);
        }
        for (int lane : new int[] {MIN, -1, 3, MAX}) {
            e.clean(x, -2, "sheet", 0, lane, 1);
            e.clean(x, -2, "sheet", 0, lane, -1);
        }
        for (int n : new int[] {61, 62, MAX}) {
            e.clean(x, -2, "sheet", 0, 0, n);
        }
        e.sentence(24, "SIZE.");
        for (int n : new int[] {MIN, -60, -1}) {
            e.fails(x, 4, "sheet", 0, 0, n);
            e.fails(x, 4, "sheet", 1, 2, n);
        }
        e.due(x, 300, "cell", 0, 59, 2);
        e.due(x, 0, "lose", 1);
    }

    private void promise25() {
        e.sentence(25, "A SHEET has nothing: 1; 0: it had nothing.");
        ColdOaths x = new ColdOaths();
        x.sheet(0, 0, 0);
        x.sheet(3, 2, 60);
        e.due(x, 1, "lose", 0);
        e.due(x, 0, "lose", 0);
        e.due(x, 1, "lose", 3);
        e.due(x, 0, "lose", 3);
        e.due(x, 0, "lose", 1);
        e.fails(x, 1, "cell", 3, 0, 2);
        // A day does not go with the sheet that told it.
        ColdOaths y = Days.of("o5;p3");
        e.due(y, 1, "lose", 0);
        e.due(y, 1, "many", 1);
        e.sentence(25, "UNKNOWN.");
        for (int k : new int[] {MIN, -1, 4, MAX}) {
            e.due(x, -1, "lose", k);
        }
        e.is("lose leaves the latest fault", x.fault(), 1);
    }

    private void promise26() {
        e.sentence(26, "Cell i of a SHEET becomes v: 1.");
        ColdOaths x = new ColdOaths();
        x.sheet(0, 2, 60);
        x.sheet(1, 2, 60);
        for (int i : new int[] {0, 1, 58, 59}) {
            e.clean(x, 1, "put", 0, i, i - 7);
            e.due(x, i - 7, "cell", 0, i, 2);
            e.due(x, 0, "cell", 1, i, 2);
        }
        e.due(x, 0, "cell", 0, 2, 2);
        e.sentence(26, "UNKNOWN; NULL; INDEX.");
        for (int k : new int[] {MIN, -1, 4, MAX}) {
            e.clean(x, -1, "put", k, 0, 0);
            e.clean(x, -1, "put", k, -1, 0);
        }
        e.fails(x, 1, "put", 2, 0, 0);
        e.fails(x, 1, "put", 2, -1, 0);
        for (int i : new int[] {MIN, -1, 60, 61, MAX}) {
            e.fails(x, 3, "put", 0, i, 9);
        }
        x.sheet(0, 0, 1);
        e.clean(x, 1, "put", 0, 0, 9);
        e.fails(x, 3, "put", 0, 1, 9);
        e.due(x, 9, "cell", 0, 0, 0);
    }

    private void promise27() {
        e.sentence(27, "Cell i of what a SHEET has, taken as a row of a LANE.");
        ColdOaths x = new ColdOaths();
        Days.numbers(x, 0, 0, -128, 127);
        Days.numbers(x, 1, 1, -32768, 32767);
        Days.numbers(x, 2, 2, MIN, MAX);
        long[][] cells = {{-128, 127}, {-32768, 32767}, {MIN, MAX}};
        for (int k = 0; k < 3; k++) {
            for (int i = 0; i < 2; i++) {
                e.clean(x, cells[k][i], "cell", k, i, k);
            }
        }
        e.sentence(27, "LOST: UNKNOWN, OUTSIDE: lane;");
        for (int k : new int[] {MIN, -1, 4, MAX}) {
            e.clean(x, LOST, "cell", k, 0, 0);
            e.clean(x, LOST, "cell", k, -1, 3);
        }
        for (int lane : new int[] {MIN, -1, 3, MAX}) {
            e.clean(x, LOST, "cell", 0, 0, lane);
            e.clean(x, LOST, "cell", 3, -1, lane);
        }
        e.sentence(27, "FAULTS CAST (nothing is no CAST), NULL, INDEX.");
        for (int k = 0; k < 3; k++) {
            for (int lane = 0; lane < 3; lane++) {
                e.fails(x, lane == k ? 3 : 2, "cell", k, -1, lane);
                e.fails(x, lane == k ? 3 : 2, "cell", k, 2, lane);
                e.fails(x, lane == k ? 3 : 2, "cell", k, MIN, lane);
                e.fails(x, lane == k ? 3 : 2, "cell", k, MAX, lane);
                e.fails(x, 1, "cell", 3, k, lane);
            }
        }
        e.fails(x, 2, "cell", 0, 0, 1);
        x.lose(0);
        e.fails(x, 1, "cell", 0, 0, 1);
    }

    private void cells(ColdOaths x, int k, int lane, int... want) {
        for (int i = 0; i < want.length; i++) {
            e.due(x, want[i], "cell", k, i, lane);
        }
    }

    private void promise28() {
        e.sentence(28, "n cells of a SHEET from i on go to another one (perhaps the same) from j on, as they were: n.");
        for (int lane = 0; lane < 3; lane++) {
            ColdOaths x = new ColdOaths();
            Days.numbers(x, 0, lane, 1, 2, 3, 4, 5);
            x.sheet(1, lane, 3);
            e.clean(x, 3, "copy", 0, 2, 1, 0, 3);
            cells(x, 1, lane, 3, 4, 5);
            cells(x, 0, lane, 1, 2, 3, 4, 5);
            e.clean(x, 1, "copy", 0, 0, 1, 2, 1);
            cells(x, 1, lane, 3, 4, 1);
            e.clean(x, 0, "copy", 0, 5, 1, 3, 0);
            e.clean(x, 0, "copy", 0, 0, 1, 0, 0);
            cells(x, 1, lane, 3, 4, 1);
            // Over itself, forward and backward: as they were ahead of the call.
            e.clean(x, 4, "copy", 0, 0, 0, 1, 4);
            cells(x, 0, lane, 1, 1, 2, 3, 4);
            e.clean(x, 3, "copy", 0, 2, 0, 0, 3);
            cells(x, 0, lane, 2, 3, 4, 3, 4);
            e.clean(x, 5, "copy", 0, 0, 0, 0, 5);
            cells(x, 0, lane, 2, 3, 4, 3, 4);
        }
        ColdOaths x = new ColdOaths();
        x.sheet(0, 2, 60);
        x.sheet(3, 2, 60);
        x.put(0, 59, MIN);
        e.clean(x, 60, "copy", 0, 0, 3, 0, 60);
        e.due(x, MIN, "cell", 3, 59, 2);
    }

    private void promise28Refused() {
        ColdOaths x = new ColdOaths();
        Days.numbers(x, 0, 2, 1, 2, 3);
        Days.numbers(x, 1, 2, 4, 5);
        Days.numbers(x, 2, 1, 6, 7);
        e.sentence(28, "UNKNOWN;");
        for (int k : new int[] {MIN, -1, 4, MAX}) {
            e.clean(x, -1, "copy", k, 0, 0, 0, 0);
            e.clean(x, -1, "copy", 0, 0, k, 0, 0);
            e.clean(x, -1, "copy", k, -1, 3, -1, -1);
            e.clean(x, -1, "copy", 3, -1, k, -1, -1);
        }
        e.sentence(28, "FAULTS NULL (the first, the other), CAST (unlike LANES),");
        e.fails(x, 1, "copy", 3, 0, 0, 0, 0);
        e.fails(x, 1, "copy", 0, 0, 3, 0, 0);
        e.fails(x, 1, "copy", 3, 0, 3, 0, 0);
        e.fails(x, 1, "copy", 3, -1, 2, -1, -1);
        e.fails(x, 2, "copy", 0, 0, 2, 0, 0);
        e.fails(x, 2, "copy", 2, 0, 0, 0, 1);
        e.fails(x, 2, "copy", 0, -1, 2, -1, -1);
        e.sentence(28, "INDEX: i, j, n below 0 or beyond.");
        int[][] beyond = {{-1, 0, 0}, {0, -1, 0}, {0, 0, -1}, {-1, 0, 1}, {0, -1, 1}, {4, 0, 0}, {0, 3, 0}, {3, 0, 1},
            {0, 2, 1}, {0, 0, 3}, {2, 0, 2}, {0, 1, 2}, {MIN, 0, 0}, {0, MIN, 0}, {0, 0, MIN}, {MAX, 0, 0}, {0, MAX, 0},
            {0, 0, MAX}, {1, 1, MAX}, {MAX, MAX, MAX}, {MAX, 0, 1}, {0, MAX, 1}, {1, 1, -1}, {MIN, MIN, MIN}};
        for (int[] b : beyond) {
            e.fails(x, 3, "copy", 0, b[0], 1, b[1], b[2]);
        }
        cells(x, 0, 2, 1, 2, 3);
        cells(x, 1, 2, 4, 5);
        e.clean(x, 2, "copy", 0, 1, 1, 0, 2);
        e.clean(x, 0, "copy", 0, 3, 1, 2, 0);
    }

    private void promises29And30() {
        ColdOaths x = Days.of(EACH);
        e.sentence(29, "TELLING of a SWEARER.");
        e.due(x, 9, "tell", 0);
        e.due(x, 109, "tell", 1);
        e.due(x, 118, "tell", 2);
        e.sentence(29, "UNKNOWN.");
        noBody(x, "tell");
        e.sentence(30, "How they are PINCHED.");
        e.due(x, 3, "pinch", 0);
        e.due(x, 2, "pinch", 1);
        e.due(x, 80, "pinch", 2);
        x.release(0);
        e.due(x, 2, "pinch", 0);
        e.sentence(30, "UNKNOWN.");
        noBody(x, "pinch");
    }

    private void noBody(ColdOaths x, String call) {
        int trace = x.trace();
        for (int wrong : new int[] {MIN, -1, 3, 4, MAX}) {
            e.due(x, -1, call, wrong);
        }
        e.due(x, trace, "trace");
        e.due(new ColdOaths(), -1, call, 0);
    }

    private void promise31() {
        ColdOaths x = Days.of(EACH);
        e.sentence(31, "A SWEARER, taken as one of a kind: 1.");
        for (int s = 0; s < 3; s++) {
            e.clean(x, 1, "as", s, s);
        }
        e.sentence(31, "UNKNOWN; OUTSIDE;");
        for (int wrong : new int[] {MIN, -1, 3, MAX}) {
            e.clean(x, -1, "as", wrong, 0);
            e.clean(x, -1, "as", wrong, 3);
            for (int s = 0; s < 3; s++) {
                e.clean(x, -2, "as", s, wrong);
            }
        }
        e.clean(new ColdOaths(), -1, "as", 0, 0);
        e.sentence(31, "CAST: they are none (each is a PLAIN one, too; a DOUBLE one is a BEARDED one).");
        e.fails(x, 2, "as", 0, 1);
        e.fails(x, 2, "as", 0, 2);
        e.clean(x, 1, "as", 1, 0);
        e.fails(x, 2, "as", 1, 2);
        e.clean(x, 1, "as", 2, 0);
        e.clean(x, 1, "as", 2, 1);
    }

    private void promise32() {
        e.sentence(32, "TRACE.");
        ColdOaths x = new ColdOaths();
        e.due(x, 0, "trace");
        Days.tell(x, EACH);
        e.due(x, 0, "trace");
        x.tell(2);
        x.pinch(0);
        int want = (((3 * 31 + 2) * 31 + 1) * 31 + 1) * 31 + 4;
        e.due(x, want, "trace");
        e.due(x, want, "trace");
        x.as(0, 2);
        x.tell(9);
        e.due(x, want, "trace");
        Days.tell(x, "o5;p");
        e.due(x, want, "trace");
    }

    private void promise33() {
        e.sentence(33, "The FAULT of the latest call that names one:");
        ColdOaths x = Days.of(EACH);
        x.put(0, 60, 0);
        String[] calls = {"many", "lose", "tell", "pinch", "coats", "kinds", "frosts", "together", "coated", "letgo",
            "release", "back"};
        for (String call : calls) {
            Call.of(x, call, 0);
            Call.of(x, call, 99);
            e.is("fault() behind " + call, x.fault(), 3);
        }
        for (String call : new String[] {"ofSwearer", "ofOath", "ofHour", "chill", "coat", "frost", "stove", "bound",
            "stoves"}) {
            Call.of(x, call, 0, 0);
            Call.of(x, call, 99, 99);
            e.is("fault() behind " + call, x.fault(), 3);
        }
        for (String call : new String[] {"swear", "reading", "odds"}) {
            Call.of(x, call, 0, 1, 0);
            Call.of(x, call, 99, 99, 99);
            e.is("fault() behind " + call, x.fault(), 3);
        }
        Call.of(x, "trace");
        e.due(x, 3, "fault");
        e.due(x, 3, "fault");
    }

    private void promise33ByEachCall() {
        e.sentence(33, "0: it came to none, or was refused (0 ahead of any).");
        e.due(new ColdOaths(), 0, "fault");
        int[][] none = {{0, 0, 0, 5}, {0, 0, 0, 0, 1}, {1, 0, 1}, {0, 0, 111}, {0, 0, 0}, {0, 0, 0, 0, 1}, {0, 0}};
        int[][] refused = {{4, 0, 0, 5}, {0, 0, 0, 0, 5}, {1, 0, 61}, {4, 0, 0}, {0, 0, 3}, {0, 0, 4, 0, 1}, {0, 3}};
        String[] calls = {"day", "trial", "sheet", "put", "cell", "copy", "as"};
        for (int k = 0; k < calls.length; k++) {
            for (int[] args : new int[][] {none[k], refused[k]}) {
                ColdOaths x = Days.of("o5;p3");
                x.as(0, 2);
                e.due(x, 2, "fault");
                Call.of(x, calls[k], args);
                e.is("fault() behind " + Call.told(calls[k], args), x.fault(), 0);
            }
        }
        ColdOaths x = Days.of("o5;p3");
        x.as(0, 2);
        e.clean(x, -102, "day", 0, 0, 0, 2);
        x.as(0, 2);
        x.sheet(1, 0, 2);
        x.put(1, 1, 1);
        x.as(0, 2);
        e.clean(x, -100, "trial", 1, 0, 0, 1, 0);
        ColdOaths bare = new ColdOaths();
        bare.sheet(0, 0, 0);
        bare.put(0, 0, 0);
        e.due(bare, 3, "fault");
        e.clean(bare, -3, "trial", 0, 0, 0, 0, 0);
    }

    private void promise34() {
        e.sentence(34, "How many: 0 HOURS, 1 SWEARERS, 2 OATHS, 3 those that BIND, 4 READINGS (0 all without a DAY).");
        ColdOaths x = new ColdOaths();
        for (int what = 0; what <= 4; what++) {
            e.due(x, 0, "many", what);
        }
        Days.tell(x, "o555555;p5;p4;p4;p4,010,010,100,100,100,230");
        for (int k = 0; k < 8; k++) {
            x.reading(0, 0, 0);
        }
        int[] most = {6, 4, 6, 4, 8};
        for (int what = 0; what <= 4; what++) {
            e.due(x, most[what], "many", what);
        }
        x.stove(0, 1);
        e.due(x, 0, "many", 3);
        Days.tell(x, "o5;p5");
        int[] least = {1, 1, 0, 0, 0};
        for (int what = 0; what <= 4; what++) {
            e.due(x, least[what], "many", what);
        }
        e.sentence(34, "OUTSIDE.");
        for (int wrong : new int[] {MIN, -1, 5, MAX}) {
            e.due(x, -2, "many", wrong);
            e.due(new ColdOaths(), -2, "many", wrong);
        }
    }
}
