import java.util.Arrays;

/** Oaths that bind only if whoever swears them is cold; ../shared/DOC.md tells what each call promises. */
public final class ColdOaths {
    public static final int UNKNOWN = -1, OUTSIDE = -2, STATE = -3, FULL = -4, NONE = -9;
    public static final long LOST = Long.MIN_VALUE;

    private static final int NULL = 1, CAST = 2, INDEX = 3, SIZE = 4;
    private static final int PLAIN = 0, BEARDED = 1, DOUBLE = 2;
    private static final int BYTES = 0, SHORTS = 1, INTS = 2;

    private static final int MOST_HOURS = 6, MOST_SWEARERS = 4, MOST_OATHS = 6, MOST_READINGS = 8;
    private static final int MOST_SHEETS = 4, MOST_CELLS = 60, MOST_PAIRS = 20, MOST_CHOSEN = 8;
    private static final int TOP_DIGIT = 9;

    /** From which second number of a pair of a CASE on which act it tells; below ACT_FROST it is a coat. */
    private static final int ACT_FROST = 4, ACT_RELEASE = 10, ACT_STOVE = 11, ACT_NO_STOVE = 17;

    private final Sheet[] sheets;
    private final Day now;
    /** A second day for texts that may fail and for questions of the kind "what if", so that no call makes one. */
    private final Day draft;
    private final Reader reader;
    private final Readings readings;
    private int trail;
    private int lastFault;

    public ColdOaths() {
        sheets = new Sheet[MOST_SHEETS];
        for (int k = 0; k < MOST_SHEETS; k++) {
            sheets[k] = new Sheet();
        }
        now = new Day();
        draft = new Day();
        reader = new Reader();
        readings = new Readings();
    }

    // ---- 1 the day

    public int day(int sheet, int lane, int i, int n) {
        lastFault = 0;
        if (!isSheet(sheet)) {
            return UNKNOWN;
        }
        if (!isLane(lane)) {
            return OUTSIDE;
        }
        Sheet row = sheets[sheet];
        int wrong = row.faultAs(lane);
        if (wrong == 0 && n < 0) {
            wrong = SIZE;
        }
        if (wrong == 0 && !row.hasCells(i, n)) {
            wrong = INDEX;
        }
        if (wrong != 0) {
            return failed(wrong);
        }
        reader.open(row, i, n);
        if (!reader.reads(draft)) {
            return -100 - reader.place;
        }
        now.become(draft);
        readings.count = 0;
        return now.swearers;
    }

    public int ofSwearer(int s, int what) {
        if (!now.hasSwearer(s)) {
            return UNKNOWN;
        }
        switch (what) {
            case 0: return now.kindOf[s];
            case 1: return now.coatOf[s];
            case 2: return now.warmth(s);
            case 3: return now.coldHours(s);
            case 4: return now.oathsBy(s);
            case 5: return now.oathsBy(s) & now.bindingOaths();
            default: return OUTSIDE;
        }
    }

    public int ofOath(int i, int what) {
        if (!now.hasOath(i)) {
            return UNKNOWN;
        }
        switch (what) {
            case 0: return now.swornBy[i];
            case 1: return now.swornTo[i];
            case 2: return now.swornAt[i];
            case 3: return now.chillOf(now.swornBy[i], now.swornAt[i]) + 100;
            case 4: return now.binds(i) ? 1 : 0;
            default: return OUTSIDE;
        }
    }

    public int ofHour(int h, int what) {
        if (!now.hasHour(h)) {
            return UNKNOWN;
        }
        switch (what) {
            case 0: return now.frostOf[h];
            case 1: return now.stoveHour == h ? now.stoveHeat : NONE;
            case 2: return now.coldSwearers(h);
            default: return OUTSIDE;
        }
    }

    public int chill(int s, int h) {
        if (!now.hasSwearer(s) || !now.hasHour(h)) {
            return UNKNOWN;
        }
        return now.chillOf(s, h) + 100;
    }

    public int coat(int s, int v) {
        if (!now.hasSwearer(s)) {
            return UNKNOWN;
        }
        if (!isDigit(v)) {
            return OUTSIDE;
        }
        int was = now.coatOf[s];
        now.coatOf[s] = v;
        return was;
    }

    public int frost(int h, int v) {
        if (!now.hasHour(h)) {
            return UNKNOWN;
        }
        if (!isDigit(v)) {
            return OUTSIDE;
        }
        int was = now.frostOf[h];
        now.frostOf[h] = v;
        return was;
    }

    // ---- 2 oaths

    public int swear(int s, int t, int h) {
        if (!now.hasSwearer(s) || !now.hasSwearer(t) || s == t || !now.hasHour(h)) {
            return UNKNOWN;
        }
        if (now.oaths >= MOST_OATHS) {
            return FULL;
        }
        now.addOath(s, t, h);
        return now.oaths - 1;
    }

    public int release(int i) {
        if (!now.hasOath(i)) {
            return UNKNOWN;
        }
        now.dropOath(i);
        return now.oaths;
    }

    public int stove(int h, int v) {
        if (!hasDay()) {
            return STATE;
        }
        if (h == NONE) {
            now.putStove(NONE, 0);
            return Integer.bitCount(now.bindingOaths());
        }
        if (!now.hasHour(h)) {
            return UNKNOWN;
        }
        if (!isDigit(v)) {
            return OUTSIDE;
        }
        now.putStove(h, v);
        return Integer.bitCount(now.bindingOaths());
    }

    public int trial(int sheet, int lane, int i, int n, int what) {
        lastFault = 0;
        if (!isSheet(sheet)) {
            return UNKNOWN;
        }
        if (!isLane(lane) || n < 0 || n > MOST_PAIRS || !isOfTrial(what)) {
            return OUTSIDE;
        }
        Sheet row = sheets[sheet];
        int wrong = row.faultAs(lane);
        if (wrong == 0 && !row.hasCells(i, 2 * n)) {
            wrong = INDEX;
        }
        if (wrong != 0) {
            return failed(wrong);
        }
        if (!hasDay()) {
            return STATE;
        }
        if (!isCase(row, i, n)) {
            return OUTSIDE;
        }
        draft.become(now);
        int firstWrong = playCase(row, i, n);
        if (what == 1) {
            return firstWrong;
        }
        return firstWrong == NONE ? ofCase(what) : -100 - firstWrong;
    }

    private static boolean isOfTrial(int what) {
        return what >= 0 && what <= 4 || what >= 10 && what < 10 + MOST_SWEARERS;
    }

    private static boolean isCase(Sheet row, int i, int n) {
        for (int k = 0; k < n; k++) {
            if (!isAct(row.at(i + 2 * k), row.at(i + 2 * k + 1))) {
                return false;
            }
        }
        return true;
    }

    private static boolean isAct(int first, int second) {
        if (second < 0 || second > ACT_NO_STOVE) {
            return false;
        }
        int top = TOP_DIGIT;
        if (second == ACT_RELEASE) {
            top = MOST_OATHS - 1;
        } else if (second == ACT_NO_STOVE) {
            top = 0;
        }
        return first >= 0 && first <= top;
    }

    /** The acts of a CASE go to the draft; the first that can't be ends it and is answered, else NONE. */
    private int playCase(Sheet row, int i, int n) {
        for (int k = 0; k < n; k++) {
            if (!draft.takesAct(row.at(i + 2 * k), row.at(i + 2 * k + 1))) {
                return k;
            }
        }
        return NONE;
    }

    private int ofCase(int what) {
        switch (what) {
            case 0: return draft.bindingOaths();
            case 2: return draft.oaths;
            case 3: return draft.timesCold();
            case 4: return Integer.bitCount(draft.leastToLetGo());
            default: return draft.hasSwearer(what - 10) ? draft.coldHours(what - 10) : NONE;
        }
    }

    // ---- 3 who is bound

    public int bound(int s, int t) {
        if (!now.hasSwearer(s) || !now.hasSwearer(t)) {
            return UNKNOWN;
        }
        return now.leastRow(s, t);
    }

    public int together(int set) {
        int refusal = refusalOfSwearers(set);
        if (refusal != 0) {
            return refusal;
        }
        for (int h = 0; h < now.hours; h++) {
            if ((set & ~now.coldSwearers(h)) == 0) {
                return h;
            }
        }
        return NONE;
    }

    public int coated(int set) {
        int refusal = refusalOfSwearers(set);
        if (refusal != 0) {
            return refusal;
        }
        for (int s = 0; s < now.swearers; s++) {
            if (hasBit(set, s) && now.coldHours(s) == 0) {
                return s;
            }
        }
        return NONE;
    }

    private int refusalOfSwearers(int set) {
        if (set < 0 || set >= 1 << MOST_SWEARERS) {
            return OUTSIDE;
        }
        if (!hasDay()) {
            return STATE;
        }
        return set >= 1 << now.swearers ? UNKNOWN : 0;
    }

    public int letgo(int what) {
        if (what < 0 || what > 1) {
            return OUTSIDE;
        }
        if (!hasDay()) {
            return STATE;
        }
        int set = now.leastToLetGo();
        return what == 0 ? Integer.bitCount(set) : set;
    }

    public int stoves(int set, int what) {
        if (set < 0 || set >= 1 << MOST_OATHS || what < 0 || what > 2) {
            return OUTSIDE;
        }
        if (!hasDay()) {
            return STATE;
        }
        if (set >= 1 << now.oaths) {
            return UNKNOWN;
        }
        return stovesThatSpare(now.allOaths() & ~set, what);
    }

    /** Of the stoves by which just the oaths of a set bind: how many, the first's hour, its heat. */
    private int stovesThatSpare(int binding, int what) {
        int pairs = 0;
        int firstHour = NONE;
        int leastHeat = NONE;
        draft.become(now);
        for (int h = 0; h < now.hours; h++) {
            for (int v = 0; v <= TOP_DIGIT; v++) {
                draft.putStove(h, v);
                if (draft.bindingOaths() != binding) {
                    continue;
                }
                if (pairs == 0) {
                    firstHour = h;
                    leastHeat = v;
                }
                pairs++;
            }
        }
        if (what == 0) {
            return pairs;
        }
        return what == 1 ? firstHour : leastHeat;
    }

    // ---- 4 who was cold

    public int reading(int s, int h, int cold) {
        if (!now.hasSwearer(s) || !now.hasHour(h)) {
            return UNKNOWN;
        }
        if (cold < 0 || cold > 1) {
            return OUTSIDE;
        }
        if (readings.count >= MOST_READINGS) {
            return FULL;
        }
        readings.add(s, h, cold == 1);
        return readings.count - 1;
    }

    public int back(int n) {
        if (n < 0 || n > readings.count) {
            return OUTSIDE;
        }
        readings.count -= n;
        return readings.count;
    }

    public int coats(int s) {
        if (!now.hasSwearer(s)) {
            return UNKNOWN;
        }
        draft.become(now);
        int set = 0;
        for (int v = 0; v <= TOP_DIGIT; v++) {
            draft.coatOf[s] = v;
            set |= readings.holdIn(draft) ? 1 << v : 0;
        }
        return set;
    }

    public int kinds(int s) {
        if (!now.hasSwearer(s)) {
            return UNKNOWN;
        }
        draft.become(now);
        int set = 0;
        for (int kind = PLAIN; kind <= DOUBLE; kind++) {
            draft.kindOf[s] = kind;
            set |= readings.holdIn(draft) ? 1 << kind : 0;
        }
        return set;
    }

    public int frosts(int h) {
        if (!now.hasHour(h)) {
            return UNKNOWN;
        }
        draft.become(now);
        int set = 0;
        for (int v = 0; v <= TOP_DIGIT; v++) {
            draft.frostOf[h] = v;
            set |= readings.holdIn(draft) ? 1 << v : 0;
        }
        return set;
    }

    public long odds(int s, int n, int which) {
        if (!now.hasSwearer(s) || n < 0 || n > MOST_CHOSEN || which < 0 || which > 1) {
            return LOST;
        }
        int cold = Integer.bitCount(now.coldHours(s));
        long base = which == 0 ? lessened(cold, now.hours) : lessened(now.hours, cold);
        long share = 1;
        for (int k = 0; k < n; k++) {
            share *= base;
        }
        return share;
    }

    /** What is left of a, a number of hours, once a and b have been divided by all that divides both. */
    private static int lessened(int a, int b) {
        for (int d = MOST_HOURS; d > 1; d--) {
            if (a % d == 0 && b % d == 0) {
                return a / d;
            }
        }
        return a;
    }

    // ---- 5 sheets, parts

    public int sheet(int k, int lane, int n) {
        lastFault = 0;
        if (!isSheet(k)) {
            return UNKNOWN;
        }
        if (!isLane(lane) || n > MOST_CELLS) {
            return OUTSIDE;
        }
        if (n < 0) {
            return failed(SIZE);
        }
        sheets[k].renew(lane, n);
        return 1;
    }

    public int lose(int k) {
        if (!isSheet(k)) {
            return UNKNOWN;
        }
        int had = sheets[k].there ? 1 : 0;
        sheets[k].there = false;
        return had;
    }

    public int put(int k, int i, int v) {
        lastFault = 0;
        if (!isSheet(k)) {
            return UNKNOWN;
        }
        Sheet row = sheets[k];
        if (!row.there) {
            return failed(NULL);
        }
        if (!row.hasCell(i)) {
            return failed(INDEX);
        }
        row.store(i, v);
        return 1;
    }

    public long cell(int k, int i, int lane) {
        lastFault = 0;
        if (!isSheet(k) || !isLane(lane)) {
            return LOST;
        }
        Sheet row = sheets[k];
        int wrong = row.faultAs(lane);
        if (wrong == 0 && !row.hasCell(i)) {
            wrong = INDEX;
        }
        if (wrong != 0) {
            lastFault = wrong;
            return LOST;
        }
        return row.at(i);
    }

    public int copy(int k, int i, int other, int j, int n) {
        lastFault = 0;
        if (!isSheet(k) || !isSheet(other)) {
            return UNKNOWN;
        }
        Sheet from = sheets[k];
        Sheet to = sheets[other];
        if (!from.there || !to.there) {
            return failed(NULL);
        }
        if (from.lane != to.lane) {
            return failed(CAST);
        }
        if (!from.hasCells(i, n) || !to.hasCells(j, n)) {
            return failed(INDEX);
        }
        System.arraycopy(from.cells, i, to.cells, j, n);
        return n;
    }

    public int tell(int s) {
        if (!now.hasSwearer(s)) {
            return UNKNOWN;
        }
        switch (now.kindOf[s]) {
            case DOUBLE: return doubleBody(s);
            case BEARDED: return beardedBody(s);
            default: return plainBody(s);
        }
    }

    public int pinch(int s) {
        if (!now.hasSwearer(s)) {
            return UNKNOWN;
        }
        return now.kindOf[s] == DOUBLE ? doublePinch() : lentPinch(s);
    }

    public int as(int s, int kind) {
        lastFault = 0;
        if (!now.hasSwearer(s)) {
            return UNKNOWN;
        }
        if (kind < PLAIN || kind > DOUBLE) {
            return OUTSIDE;
        }
        // Each kind is one of all the kinds below it too.
        return now.kindOf[s] >= kind ? 1 : failed(CAST);
    }

    public int trace() {
        return trail;
    }

    public int fault() {
        return lastFault;
    }

    public int many(int what) {
        switch (what) {
            case 0: return now.hours;
            case 1: return now.swearers;
            case 2: return now.oaths;
            case 3: return Integer.bitCount(now.bindingOaths());
            case 4: return readings.count;
            default: return OUTSIDE;
        }
    }

    private int plainBody(int s) {
        leaveInTrace(1);
        return now.coatOf[s];
    }

    private int beardedBody(int s) {
        leaveInTrace(2);
        return plainBody(s) + 100;
    }

    private int doubleBody(int s) {
        leaveInTrace(3);
        int bearded = beardedBody(s);
        return bearded + plainBody(s);
    }

    private int lentPinch(int s) {
        leaveInTrace(4);
        return Integer.bitCount(now.oathsBy(s));
    }

    private int doublePinch() {
        leaveInTrace(5);
        return 80;
    }

    private void leaveInTrace(int number) {
        trail = 31 * trail + number;
    }

    private int failed(int wrong) {
        lastFault = wrong;
        return -10 - wrong;
    }

    private boolean hasDay() {
        return now.swearers > 0;
    }

    private static boolean isSheet(int k) {
        return k >= 0 && k < MOST_SHEETS;
    }

    private static boolean isLane(int lane) {
        return lane >= BYTES && lane <= INTS;
    }

    private static boolean isDigit(int v) {
        return v >= 0 && v <= TOP_DIGIT;
    }

    private static boolean hasBit(int set, int k) {
        return (set >> k & 1) != 0;
    }

    /** A day: its hours with their frost, swearers, oaths, and a stove (at the hour NONE: there is none). */
    private static final class Day {
        int hours;
        int swearers;
        int oaths;
        int stoveHour = NONE;
        int stoveHeat;
        final int[] frostOf = new int[MOST_HOURS];
        final int[] kindOf = new int[MOST_SWEARERS];
        final int[] coatOf = new int[MOST_SWEARERS];
        final int[] swornBy = new int[MOST_OATHS];
        final int[] swornTo = new int[MOST_OATHS];
        final int[] swornAt = new int[MOST_OATHS];

        void clear() {
            hours = 0;
            swearers = 0;
            oaths = 0;
            putStove(NONE, 0);
        }

        void become(Day other) {
            hours = other.hours;
            swearers = other.swearers;
            oaths = other.oaths;
            putStove(other.stoveHour, other.stoveHeat);
            System.arraycopy(other.frostOf, 0, frostOf, 0, MOST_HOURS);
            System.arraycopy(other.kindOf, 0, kindOf, 0, MOST_SWEARERS);
            System.arraycopy(other.coatOf, 0, coatOf, 0, MOST_SWEARERS);
            System.arraycopy(other.swornBy, 0, swornBy, 0, MOST_OATHS);
            System.arraycopy(other.swornTo, 0, swornTo, 0, MOST_OATHS);
            System.arraycopy(other.swornAt, 0, swornAt, 0, MOST_OATHS);
        }

        boolean hasHour(int h) {
            return h >= 0 && h < hours;
        }

        boolean hasSwearer(int s) {
            return s >= 0 && s < swearers;
        }

        boolean hasOath(int i) {
            return i >= 0 && i < oaths;
        }

        void addHour(int v) {
            if (hours < MOST_HOURS) {
                frostOf[hours] = v;
                hours++;
            }
        }

        void addSwearer(int kind, int v) {
            if (swearers < MOST_SWEARERS) {
                kindOf[swearers] = kind;
                coatOf[swearers] = v;
                swearers++;
            }
        }

        void addOath(int s, int t, int h) {
            if (oaths < MOST_OATHS) {
                swornBy[oaths] = s;
                swornTo[oaths] = t;
                swornAt[oaths] = h;
                oaths++;
            }
        }

        void dropOath(int i) {
            if (!hasOath(i)) {
                return;
            }
            for (int k = i + 1; k < oaths; k++) {
                swornBy[k - 1] = swornBy[k];
                swornTo[k - 1] = swornTo[k];
                swornAt[k - 1] = swornAt[k];
            }
            oaths--;
        }

        void putStove(int h, int v) {
            stoveHour = h;
            stoveHeat = v;
        }

        /** Does what a pair of a CASE tells; false, with nothing done, if that can't be. */
        boolean takesAct(int first, int second) {
            if (second == ACT_NO_STOVE) {
                putStove(NONE, 0);
                return true;
            }
            if (second >= ACT_STOVE) {
                return takesStove(second - ACT_STOVE, first);
            }
            if (second == ACT_RELEASE) {
                boolean there = hasOath(first);
                dropOath(first);
                return there;
            }
            if (second >= ACT_FROST) {
                return takesFrost(second - ACT_FROST, first);
            }
            return takesCoat(second, first);
        }

        private boolean takesStove(int h, int v) {
            if (!hasHour(h)) {
                return false;
            }
            putStove(h, v);
            return true;
        }

        private boolean takesFrost(int h, int v) {
            if (!hasHour(h)) {
                return false;
            }
            frostOf[h] = v;
            return true;
        }

        private boolean takesCoat(int s, int v) {
            if (!hasSwearer(s)) {
                return false;
            }
            coatOf[s] = v;
            return true;
        }

        int warmth(int s) {
            switch (kindOf[s]) {
                case DOUBLE: return 2 * coatOf[s];
                case BEARDED: return coatOf[s] + 1;
                default: return coatOf[s];
            }
        }

        int chillOf(int s, int h) {
            int heat = stoveHour == h ? stoveHeat : 0;
            return frostOf[h] - heat - warmth(s);
        }

        boolean isCold(int s, int h) {
            return chillOf(s, h) > 0;
        }

        boolean binds(int i) {
            return chillOf(swornBy[i], swornAt[i]) > 0;
        }

        int coldHours(int s) {
            int set = 0;
            for (int h = 0; h < hours; h++) {
                set |= isCold(s, h) ? 1 << h : 0;
            }
            return set;
        }

        int coldSwearers(int h) {
            int set = 0;
            for (int s = 0; s < swearers; s++) {
                set |= isCold(s, h) ? 1 << s : 0;
            }
            return set;
        }

        int timesCold() {
            int times = 0;
            for (int s = 0; s < swearers; s++) {
                times += Integer.bitCount(coldHours(s));
            }
            return times;
        }

        int allOaths() {
            return (1 << oaths) - 1;
        }

        int oathsBy(int s) {
            int set = 0;
            for (int i = 0; i < oaths; i++) {
                set |= swornBy[i] == s ? 1 << i : 0;
            }
            return set;
        }

        int bindingOaths() {
            int set = 0;
            for (int i = 0; i < oaths; i++) {
                set |= binds(i) ? 1 << i : 0;
            }
            return set;
        }

        /** How many oaths are in the least row of binding ones from s to t; NONE. */
        int leastRow(int s, int t) {
            int binding = bindingOaths();
            int reached = 1 << s;
            // No least row comes to anybody twice, but to its beginning at its end.
            for (int n = 1; n <= swearers; n++) {
                reached = swornToBy(reached, binding);
                if (hasBit(reached, t)) {
                    return n;
                }
            }
            return NONE;
        }

        private int swornToBy(int people, int among) {
            int set = 0;
            for (int i = 0; i < oaths; i++) {
                if (hasBit(among, i) && hasBit(people, swornBy[i])) {
                    set |= 1 << swornTo[i];
                }
            }
            return set;
        }

        /** Of the smallest sets of binding oaths without which there is no ring, the least. */
        int leastToLetGo() {
            int binding = bindingOaths();
            int best = binding;
            for (int set = 0; set < 1 << oaths; set++) {
                boolean fewer = Integer.bitCount(set) < Integer.bitCount(best);
                if (fewer && (set & ~binding) == 0 && !hasRing(binding & ~set)) {
                    best = set;
                }
            }
            return best;
        }

        /** Whoever swears to nobody who is left is in no ring and goes; a ring is what stays. */
        private boolean hasRing(int kept) {
            int left = (1 << swearers) - 1;
            for (int round = 0; round < swearers; round++) {
                left = swearingWithin(left, kept);
            }
            return left != 0;
        }

        private int swearingWithin(int people, int among) {
            int set = 0;
            for (int i = 0; i < oaths; i++) {
                if (hasBit(among, i) && hasBit(people, swornBy[i]) && hasBit(people, swornTo[i])) {
                    set |= 1 << swornBy[i];
                }
            }
            return set;
        }
    }

    /** Reads a TEXT code by code; it never goes on over a code with which no TEXT goes on. */
    private static final class Reader {
        int place;
        private Sheet row;
        private int start;
        private int count;

        void open(Sheet text, int from, int codes) {
            row = text;
            start = from;
            count = codes;
            place = 0;
        }

        /** Whether it is a TEXT, whose day d becomes; if not, place is its FIRST FAULT. */
        boolean reads(Day d) {
            d.clear();
            return passes('o') && readsHours(d) && readsSwearers(d) && readsOaths(d) && place == count;
        }

        private boolean readsHours(Day d) {
            for (int k = 0; k < MOST_HOURS; k++) {
                int v = digitBelow(10, NONE);
                if (v < 0) {
                    break;
                }
                d.addHour(v);
            }
            return d.hours > 0;
        }

        private boolean readsSwearers(Day d) {
            for (int k = 0; k < MOST_SWEARERS && passes(';'); k++) {
                int kind = kindLetter();
                if (kind < 0) {
                    return false;
                }
                int v = digitBelow(10, NONE);
                if (v < 0) {
                    return false;
                }
                d.addSwearer(kind, v);
            }
            return d.swearers > 0;
        }

        private boolean readsOaths(Day d) {
            for (int k = 0; k < MOST_OATHS && passes(','); k++) {
                int s = digitBelow(d.swearers, NONE);
                if (s < 0) {
                    return false;
                }
                int t = digitBelow(d.swearers, s);
                if (t < 0) {
                    return false;
                }
                int h = digitBelow(d.hours, NONE);
                if (h < 0) {
                    return false;
                }
                d.addOath(s, t, h);
            }
            return true;
        }

        private int kindLetter() {
            if (passes('p')) {
                return PLAIN;
            }
            if (passes('b')) {
                return BEARDED;
            }
            return passes('d') ? DOUBLE : NONE;
        }

        private boolean passes(int code) {
            if (isAtEnd() || row.at(start + place) != code) {
                return false;
            }
            place++;
            return true;
        }

        /** The next digit, if it is below a bound and not the one that is left out; else NONE. */
        private int digitBelow(int bound, int leftOut) {
            if (isAtEnd()) {
                return NONE;
            }
            int code = row.at(start + place);
            if (code < '0' || code >= '0' + bound || code == '0' + leftOut) {
                return NONE;
            }
            place++;
            return code - '0';
        }

        private boolean isAtEnd() {
            return row == null || place >= count;
        }
    }

    /** At an hour a swearer is cold or not: what was read. */
    private static final class Readings {
        int count;
        private final int[] who = new int[MOST_READINGS];
        private final int[] when = new int[MOST_READINGS];
        private final boolean[] cold = new boolean[MOST_READINGS];

        void add(int s, int h, boolean isCold) {
            if (count < MOST_READINGS) {
                who[count] = s;
                when[count] = h;
                cold[count] = isCold;
                count++;
            }
        }

        boolean holdIn(Day d) {
            for (int k = 0; k < count; k++) {
                if (d.isCold(who[k], when[k]) != cold[k]) {
                    return false;
                }
            }
            return true;
        }
    }

    /** Nothing, or a row of a lane; its cells are made once and used again by every row that it gets. */
    private static final class Sheet {
        boolean there;
        int lane;
        final int[] cells = new int[MOST_CELLS];
        private int length;

        void renew(int newLane, int n) {
            there = true;
            lane = newLane;
            length = n;
            Arrays.fill(cells, 0);
        }

        /** What taking it as a row of a lane comes to: CAST, NULL, or 0. */
        int faultAs(int asLane) {
            if (!there) {
                return NULL;
            }
            return lane == asLane ? 0 : CAST;
        }

        boolean hasCell(int i) {
            return i >= 0 && i < length;
        }

        /** Whether n cells from i on are there; i must be a place, or the end, even if n is 0. */
        boolean hasCells(int i, int n) {
            return i >= 0 && i <= length && n >= 0 && n <= length - i;
        }

        int at(int i) {
            return hasCell(i) ? cells[i] : 0;
        }

        void store(int i, int v) {
            if (hasCell(i)) {
                cells[i] = cutToLane(v);
            }
        }

        private int cutToLane(int v) {
            switch (lane) {
                case BYTES: return (byte) v;
                case SHORTS: return (short) v;
                default: return v;
            }
        }
    }
}
