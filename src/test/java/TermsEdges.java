/** The head of the Terms: refusals, faults, how answers are told; and how long an object is used. */
final class TermsEdges {
    private static final int MIN = Integer.MIN_VALUE, MAX = Integer.MAX_VALUE;
    /** Two hours, a plain and a double one, and as many oaths as there can be. */
    private static final String FULL_DAY = "o52;p3;d1,010,101,011,100,010,101";

    private final Edges e;

    TermsEdges(Edges e) {
        this.e = e;
    }

    void run() {
        refusalsInTheirOrder();
        unknown();
        refusalsChangeNothing();
        nothingAndAnotherLane();
        index();
        size();
        firstFaultThatIsComeTo();
        faultsChangeNothing();
        none();
        sets();
        shares();
        calls512();
    }

    /** All is full, each sheet but the last has something, trace is not 0, and the latest fault is CAST. */
    private static ColdOaths full() {
        ColdOaths x = Days.of(FULL_DAY);
        for (int k = 0; k < 8; k++) {
            x.reading(k % 2, k / 2 % 2, 1);
        }
        x.stove(1, 1);
        x.tell(1);
        Days.numbers(x, 0, 1, 700, 99);
        Days.numbers(x, 1, 2, 1, 0, 9);
        Days.numbers(x, 2, 1, -700);
        x.as(0, 2);
        return x;
    }

    private void refusalsInTheirOrder() {
        e.sentence(0, "REFUSALS, in the order in which a call's line tells them:");
        ColdOaths x = full();
        e.due(x, -1, "ofSwearer", 2, 6);
        e.due(x, -1, "ofOath", 6, 5);
        e.due(x, -1, "ofHour", 2, 3);
        e.due(x, -1, "coat", 2, 10);
        e.due(x, -1, "frost", 2, 10);
        e.due(x, -1, "swear", 2, 0, 0);
        e.due(x, -1, "swear", 0, 1, 2);
        e.due(x, -4, "swear", 0, 1, 1);
        e.due(x, -1, "stove", 2, 10);
        e.due(x, -2, "together", 16);
        e.due(x, -1, "together", 15);
        e.due(x, -2, "coated", 16);
        e.due(x, -1, "coated", 15);
        e.due(x, -1, "reading", 2, 0, 2);
        e.due(x, -2, "reading", 0, 0, 2);
        e.due(x, -4, "reading", 0, 0, 1);
        e.due(x, -1, "day", 4, 3, -1, -1);
        e.due(x, -2, "day", 0, 3, -1, -1);
        e.due(x, -1, "trial", 4, 3, -1, 21, 5);
        e.due(x, -2, "trial", 3, 3, -1, 0, 0);
        e.due(x, -2, "trial", 3, 0, -1, 21, 0);
        e.due(x, -2, "trial", 3, 0, -1, 0, 5);
        e.due(x, -1, "sheet", 4, 3, -1);
        e.due(x, -2, "sheet", 0, 3, -1);
        e.due(x, -1, "as", 2, 3);
        ColdOaths bare = new ColdOaths();
        e.due(bare, -3, "stove", 6, 10);
        e.due(bare, -2, "together", 16);
        e.due(bare, -3, "together", 15);
        e.due(bare, -2, "coated", 16);
        e.due(bare, -3, "coated", 15);
        e.due(bare, -2, "letgo", 2);
        e.due(bare, -2, "stoves", 64, 0);
        e.due(bare, -2, "stoves", 0, 3);
        e.due(bare, -3, "stoves", 63, 2);
        bare.sheet(0, 0, 2);
        bare.put(0, 1, 18);
        e.due(bare, -3, "trial", 0, 0, 0, 1, 0);
    }

    private void unknown() {
        e.sentence(0, "UNKNOWN (there is no such SWEARER, OATH, HOUR, SHEET, place of a row), "
            + "OUTSIDE (another number is not as told), STATE (as told), FULL;");
        ColdOaths x = full();
        for (int wrong : new int[] {MIN, -9, -1, 2, 3, 4, 6, 32, 33, MAX}) {
            e.due(x, -1, "ofSwearer", wrong, 0);
            e.due(x, -1, "ofHour", wrong, 0);
            e.due(x, -1, "chill", wrong, 0);
            e.due(x, -1, "chill", 0, wrong);
            e.due(x, -1, "coat", wrong, 0);
            e.due(x, -1, "frost", wrong, 0);
            e.due(x, -1, "swear", wrong, 0, 0);
            e.due(x, -1, "swear", 0, wrong, 0);
            e.due(x, -1, "swear", 0, 1, wrong);
            e.due(x, -1, "bound", wrong, 0);
            e.due(x, -1, "bound", 0, wrong);
            e.due(x, -1, "reading", wrong, 0, 0);
            e.due(x, -1, "reading", 0, wrong, 0);
            e.due(x, -1, "coats", wrong);
            e.due(x, -1, "kinds", wrong);
            e.due(x, -1, "frosts", wrong);
            e.due(x, ColdOaths.LOST, "odds", wrong, 0, 0);
            e.due(x, -1, "tell", wrong);
            e.due(x, -1, "pinch", wrong);
            e.due(x, -1, "as", wrong, 0);
        }
        for (int wrong : new int[] {MIN, -1, 6, 7, MAX}) {
            e.due(x, -1, "ofOath", wrong, 0);
            e.due(x, -1, "release", wrong);
        }
        for (int wrong : new int[] {MIN, -1, 4, 5, MAX}) {
            e.clean(x, -1, "day", wrong, 0, 0, 0);
            e.clean(x, -1, "trial", wrong, 0, 0, 0, 0);
            e.clean(x, -1, "sheet", wrong, 0, 0);
            e.due(x, -1, "lose", wrong);
            e.clean(x, -1, "put", wrong, 0, 0);
            e.clean(x, ColdOaths.LOST, "cell", wrong, 0, 0);
            e.clean(x, -1, "copy", wrong, 0, 0, 0, 0);
            e.clean(x, -1, "copy", 0, 0, wrong, 0, 0);
        }
    }

    /** The call is answered so, fault() tells that then, and all else is as with an object that was not called. */
    private void changesNothing(long want, int fault, String call, int... args) {
        ColdOaths x = full();
        e.due(x, want, call, args);
        e.is(Call.told(call, args) + ", then fault()", x.fault(), fault);
        e.same(Call.told(call, args) + " changes nothing", State.of(x), State.of(full()));
    }

    private void refusalsChangeNothing() {
        e.sentence(0, "they change nothing (but fault(), of a call that names FAULTS).");
        int was = 2;
        changesNothing(-1, was, "ofSwearer", 2, 0);
        changesNothing(-2, was, "ofSwearer", 0, 6);
        changesNothing(-2, was, "ofOath", 0, 5);
        changesNothing(-2, was, "ofHour", 0, 3);
        changesNothing(-1, was, "chill", 0, 2);
        changesNothing(-1, was, "coat", 2, 5);
        changesNothing(-2, was, "coat", 0, 10);
        changesNothing(-2, was, "coat", 0, -1);
        changesNothing(-1, was, "frost", 2, 5);
        changesNothing(-2, was, "frost", 0, 10);
        changesNothing(-2, was, "frost", 0, -1);
        changesNothing(-1, was, "swear", 1, 1, 0);
        changesNothing(-4, was, "swear", 0, 1, 0);
        changesNothing(-1, was, "release", 6);
        changesNothing(-1, was, "stove", 2, 5);
        changesNothing(-2, was, "stove", 0, 10);
        changesNothing(-2, was, "stove", 0, -1);
        changesNothing(-1, was, "bound", 0, 2);
        changesNothing(-1, was, "together", 4);
        changesNothing(-2, was, "coated", 16);
        changesNothing(-2, was, "letgo", 2);
        changesNothing(-2, was, "stoves", 64, 0);
        changesNothing(-1, was, "reading", 0, 2, 0);
        changesNothing(-2, was, "reading", 0, 0, 2);
        changesNothing(-4, was, "reading", 0, 0, 0);
        changesNothing(-2, was, "back", 9);
        changesNothing(-2, was, "back", -1);
        changesNothing(ColdOaths.LOST, was, "odds", 0, 9, 0);
        changesNothing(-1, was, "lose", 4);
        changesNothing(-1, was, "tell", 2);
        changesNothing(-1, was, "pinch", 2);
        changesNothing(-2, was, "many", 5);
        changesNothing(-1, 0, "day", 4, 0, 0, 0);
        changesNothing(-2, 0, "day", 0, 3, 0, 0);
        changesNothing(-1, 0, "trial", 4, 0, 0, 0, 0);
        changesNothing(-2, 0, "trial", 0, 1, 0, 1, 0);
        changesNothing(-2, 0, "trial", 0, 1, 0, 0, 5);
        changesNothing(-1, 0, "sheet", 4, 0, 0);
        changesNothing(-2, 0, "sheet", 0, 3, 0);
        changesNothing(-2, 0, "sheet", 0, 0, 61);
        changesNothing(-1, 0, "put", 4, 0, 0);
        changesNothing(ColdOaths.LOST, 0, "cell", 4, 0, 0);
        changesNothing(ColdOaths.LOST, 0, "cell", 0, 0, 3);
        changesNothing(-1, 0, "copy", 0, 0, 4, 0, 1);
        changesNothing(-1, 0, "as", 2, 0);
        changesNothing(-2, 0, "as", 0, 3);
    }

    private void nothingAndAnotherLane() {
        e.sentence(0, "FAULTS are the machine's: 1 NULL (there is nothing), 2 CAST (it is of another lane, kind),");
        ColdOaths x = full();
        e.fails(x, 1, "day", 3, 0, 0, 0);
        e.fails(x, 1, "trial", 3, 0, 0, 0, 0);
        e.fails(x, 1, "put", 3, 0, 0);
        e.fails(x, 1, "cell", 3, 0, 0);
        e.fails(x, 1, "copy", 3, 0, 0, 0, 0);
        e.fails(x, 2, "day", 0, 2, 0, 0);
        e.fails(x, 2, "trial", 0, 0, 0, 0, 0);
        e.fails(x, 2, "cell", 0, 0, 2);
        e.fails(x, 2, "copy", 0, 0, 1, 0, 0);
        e.fails(x, 2, "as", 0, 1);
    }

    private void index() {
        e.sentence(0, "3 INDEX (of cells from i on also where i is not 0 .. how many there are, "
            + "if none of them is taken, too),");
        ColdOaths x = full();
        for (int i : new int[] {MIN, -1, 3, 4, MAX}) {
            e.fails(x, 3, "day", 0, 1, i, 0);
            e.fails(x, 3, "trial", 0, 1, i, 0, 2);
            e.fails(x, 3, "copy", 0, i, 0, 0, 0);
            e.fails(x, 3, "copy", 0, 0, 0, i, 0);
        }
        for (int i = 0; i <= 2; i++) {
            e.clean(x, -100, "day", 0, 1, i, 0);
            e.clean(x, 6, "trial", 0, 1, i, 0, 2);
            e.clean(x, 0, "copy", 0, i, 0, 0, 0);
            e.clean(x, 0, "copy", 0, 0, 0, i, 0);
        }
        x.sheet(3, 1, 0);
        e.clean(x, -100, "day", 3, 1, 0, 0);
        e.clean(x, 6, "trial", 3, 1, 0, 0, 2);
        e.clean(x, 0, "copy", 3, 0, 3, 0, 0);
        e.fails(x, 3, "day", 3, 1, 1, 0);
        e.fails(x, 3, "trial", 3, 1, 1, 0, 2);
        e.fails(x, 3, "copy", 3, 1, 3, 0, 0);
        e.fails(x, 3, "copy", 3, 0, 3, 1, 0);
        e.fails(x, 3, "put", 3, 0, 0);
        e.fails(x, 3, "cell", 3, 0, 1);
    }

    private void size() {
        e.sentence(0, "4 SIZE (a length below 0).");
        ColdOaths x = full();
        for (int n : new int[] {MIN, -60, -1}) {
            e.fails(x, 4, "sheet", 0, 1, n);
            e.fails(x, 4, "day", 0, 1, 0, n);
        }
        e.clean(x, -100, "day", 0, 1, 0, 0);
        e.clean(x, 1, "sheet", 0, 1, 0);
    }

    private void firstFaultThatIsComeTo() {
        e.sentence(0, "Of a call the first that is come to, in the order told;");
        ColdOaths x = full();
        e.fails(x, 1, "day", 3, 0, -1, -1);
        e.fails(x, 2, "day", 0, 0, -1, -1);
        e.fails(x, 4, "day", 0, 1, -1, -1);
        e.fails(x, 3, "day", 0, 1, -1, 3);
        e.fails(x, 1, "trial", 3, 0, -1, 20, 0);
        e.fails(x, 2, "trial", 0, 0, -1, 20, 0);
        e.fails(x, 3, "trial", 0, 1, -1, 20, 0);
        e.fails(x, 1, "put", 3, -1, 0);
        e.fails(x, 1, "cell", 3, -1, 0);
        e.fails(x, 2, "cell", 0, -1, 0);
        e.fails(x, 1, "copy", 3, -1, 0, -1, -1);
        e.fails(x, 1, "copy", 0, -1, 3, -1, -1);
        e.fails(x, 2, "copy", 0, -1, 1, -1, -1);
        e.fails(x, 3, "copy", 0, -1, 2, -1, -1);
    }

    private void faultsChangeNothing() {
        e.sentence(0, "it answers -10 less it (LOST, where a long is answered, as for refusals) and changes nothing; "
            + "fault() tells it.");
        changesNothing(-11, 1, "day", 3, 0, 0, 0);
        changesNothing(-12, 2, "day", 0, 0, 0, 0);
        changesNothing(-13, 3, "day", 0, 1, 0, 3);
        changesNothing(-14, 4, "day", 0, 1, 0, -1);
        changesNothing(-11, 1, "trial", 3, 0, 0, 0, 0);
        changesNothing(-12, 2, "trial", 0, 0, 0, 0, 0);
        changesNothing(-13, 3, "trial", 0, 1, 0, 2, 0);
        changesNothing(-14, 4, "sheet", 0, 0, -1);
        changesNothing(-14, 4, "sheet", 3, 0, -1);
        changesNothing(-11, 1, "put", 3, 0, 5);
        changesNothing(-13, 3, "put", 0, 2, 5);
        changesNothing(ColdOaths.LOST, 1, "cell", 3, 0, 0);
        changesNothing(ColdOaths.LOST, 2, "cell", 0, 0, 0);
        changesNothing(ColdOaths.LOST, 3, "cell", 0, 2, 1);
        changesNothing(-11, 1, "copy", 0, 0, 3, 0, 1);
        changesNothing(-11, 1, "copy", 3, 0, 0, 0, 1);
        changesNothing(-12, 2, "copy", 0, 0, 1, 0, 1);
        changesNothing(-13, 3, "copy", 0, 0, 2, 0, 2);
        changesNothing(-13, 3, "copy", 2, 0, 0, 0, 2);
        changesNothing(-13, 3, "copy", 0, 0, 0, 1, 2);
        changesNothing(-12, 2, "as", 0, 2);
    }

    private void none() {
        e.sentence(0, "NONE is -9.");
        e.is("NONE", ColdOaths.NONE, -9);
        e.due(Days.of("o5;p0;p0"), -9, "bound", 0, 1);
        e.due(Days.of("o5;p0;p0"), -9, "ofHour", 0, 1);
    }

    private void sets() {
        e.sentence(0, "Sets are told as bits (bit k for number k).");
        ColdOaths x = Days.of("o900009;p0;d9;p0;p0,310,301,310,310,310,315");
        e.due(x, 0b100001, "ofSwearer", 0, 3);
        e.due(x, 0b111111, "ofSwearer", 3, 4);
        e.due(x, 0b111101, "ofSwearer", 3, 5);
        e.due(x, 0, "ofSwearer", 1, 3);
        e.due(x, 0b1101, "ofHour", 0, 2);
        e.due(x, 0, "ofHour", 1, 2);
        e.due(x, 0, "together", 0b1101);
        e.due(x, 1, "coated", 0b1010);
    }

    private void shares() {
        e.sentence(0, "Shares are told as upper and lower number (above 0) in least terms.");
        String[] texts = {"o1;p0", "o0;p0", "o000000;p0", "o111111;p0", "o110000;p0", "o111000;p0", "o111100;p0",
            "o1100;p0", "o10000;p0", "o111110;p0"};
        int[][] shares = {{1, 1}, {0, 1}, {0, 1}, {1, 1}, {1, 3}, {1, 2}, {2, 3}, {1, 2}, {1, 5}, {5, 6}};
        for (int k = 0; k < texts.length; k++) {
            ColdOaths x = Days.of(texts[k]);
            e.is(texts[k] + " upper", x.odds(0, 1, 0), shares[k][0]);
            e.is(texts[k] + " lower", x.odds(0, 1, 1), shares[k][1]);
        }
    }

    private void calls512() {
        e.sentence(-1, "An object is used for at most 512 calls after it has been made; what later calls answer is free.");
        ColdOaths x = Days.of("o5;d3;p0,010");
        int calls = "o5;d3;p0,010".length() + 2;
        int trace = 0;
        for (; calls < 510; calls++) {
            e.is("tell, call " + (calls + 1), x.tell(0), 106);
            trace = (((trace * 31 + 3) * 31 + 2) * 31 + 1) * 31 + 1;
        }
        e.is("call 511", x.trace(), trace);
        e.is("call 512", x.bound(0, 1), -9);
    }
}
