import java.util.ArrayList;
import java.util.Arrays;
import java.util.HashSet;
import java.util.List;
import java.util.Objects;
import java.util.Set;
import java.util.regex.Matcher;
import java.util.regex.Pattern;

/**
 * The document told a second time, by other means than the class uses: real arrays and casts whose faults the
 * machine throws, patterns for texts, sets for rings. ModelTest holds both against each other.
 */
public final class Model {
    private static final long LOST = Long.MIN_VALUE;
    private static final Pattern TEXT = Pattern.compile("o[0-9]{1,6}(;[pbd][0-9]){1,4}(,[0-9]{3}){0,6}");

    private static final class Refused extends RuntimeException {
        private static final long serialVersionUID = 1L;
        final int answer;

        Refused(int answer) {
            super(null, null, false, false);
            this.answer = answer;
        }
    }

    private interface Body {
        int answer();
    }

    private record Oath(int by, int to, int hour) {
    }

    private record Reading(int who, int hour, boolean cold) {
    }

    private class Plain {
        int coat;

        int warmth() {
            return coat;
        }

        int tell() {
            return plainTell();
        }

        int plainTell() {
            trace = trace * 31 + 1;
            return coat;
        }

        int pinch() {
            trace = trace * 31 + 4;
            return (int) world.oaths.stream().filter(o -> world.people.get(o.by) == this).count();
        }
    }

    private class Bearded extends Plain {
        @Override
        int warmth() {
            return super.warmth() + 1;
        }

        @Override
        int tell() {
            return beardedTell();
        }

        int beardedTell() {
            trace = trace * 31 + 2;
            return plainTell() + 100;
        }
    }

    private class Double extends Bearded {
        @Override
        int warmth() {
            return coat + coat;
        }

        @Override
        int tell() {
            trace = trace * 31 + 3;
            int sum = beardedTell();
            sum += plainTell();
            return sum;
        }

        @Override
        int pinch() {
            trace = trace * 31 + 5;
            return 80;
        }
    }

    private final class World {
        final List<Integer> frost = new ArrayList<>();
        final List<Plain> people = new ArrayList<>();
        final List<Oath> oaths = new ArrayList<>();
        final List<Integer> stove = new ArrayList<>();

        World again() {
            World w = new World();
            w.frost.addAll(frost);
            people.forEach(p -> w.people.add(made(kindOf(p), p.coat)));
            w.oaths.addAll(oaths);
            w.stove.addAll(stove);
            return w;
        }

        int chill(int s, int h) {
            int felt = frost.get(h) - people.get(s).warmth();
            return !stove.isEmpty() && stove.get(0) == h ? felt - stove.get(1) : felt;
        }

        boolean binds(int i) {
            return chill(oaths.get(i).by, oaths.get(i).hour) >= 1;
        }

        int binding() {
            return setOf(oaths.size(), this::binds);
        }

        int coldHours(int s) {
            return setOf(frost.size(), h -> chill(s, h) >= 1);
        }

        int coldPeople(int h) {
            return setOf(people.size(), s -> chill(s, h) >= 1);
        }

        void setStove(int h, int v) {
            stove.clear();
            stove.add(h);
            stove.add(v);
        }

        /** The shortest way by a search in breadth over the oaths of a set. */
        int shortest(int s, int t, int set) {
            Set<Integer> seen = new HashSet<>();
            List<Integer> edge = List.of(s);
            for (int n = 1; !edge.isEmpty(); n++) {
                List<Integer> next = new ArrayList<>();
                for (int p : edge) {
                    for (int i = 0; i < oaths.size(); i++) {
                        if ((set & 1 << i) != 0 && oaths.get(i).by == p && seen.add(oaths.get(i).to)) {
                            next.add(oaths.get(i).to);
                        }
                    }
                }
                if (next.contains(t)) {
                    return n;
                }
                edge = next;
            }
            return -9;
        }

        int letGo() {
            for (int size = 0; size <= 6; size++) {
                for (int set = 0; set < 64; set++) {
                    if (Integer.bitCount(set) == size && (set | binding()) == binding() && ringless(binding() ^ set)) {
                        return set;
                    }
                }
            }
            throw new IllegalStateException();
        }

        private boolean ringless(int set) {
            for (int s = 0; s < people.size(); s++) {
                if (shortest(s, s, set) != -9) {
                    return false;
                }
            }
            return true;
        }

        boolean agrees() {
            return readings.stream().allMatch(r -> chill(r.who, r.hour) > 0 == r.cold);
        }
    }

    private interface Test {
        boolean holds(int k);
    }

    private World world = new World();
    private final List<Reading> readings = new ArrayList<>();
    private final Object[] sheets = new Object[4];
    private int trace;
    private int fault;

    public int day(int sheet, int lane, int i, int n) {
        return faulty(() -> {
            need(sheet >= 0 && sheet <= 3, -1);
            need(lane >= 0 && lane <= 2, -2);
            int[] row = taken(sheets[sheet], lane);
            int[] codes = new int[Math.min(n, 60)];
            Objects.checkFromIndexSize(i, n, row.length);
            System.arraycopy(row, i, codes, 0, n);
            int place = firstFault(codes);
            need(place < 0, -100 - place);
            build(codes);
            return world.people.size();
        });
    }

    public int ofSwearer(int s, int what) {
        return asked(() -> {
            Plain p = person(s);
            need(what >= 0 && what <= 5, -2);
            int swore = setOf(world.oaths.size(), i -> world.oaths.get(i).by == s);
            int[] answers = {kindOf(p), p.coat, p.warmth(), world.coldHours(s), swore, swore & world.binding()};
            return answers[what];
        });
    }

    public int ofOath(int i, int what) {
        return asked(() -> {
            need(i >= 0 && i < world.oaths.size(), -1);
            need(what >= 0 && what <= 4, -2);
            Oath o = world.oaths.get(i);
            int[] answers = {o.by, o.to, o.hour, world.chill(o.by, o.hour) + 100, world.binds(i) ? 1 : 0};
            return answers[what];
        });
    }

    public int ofHour(int h, int what) {
        return asked(() -> {
            hour(h);
            need(what >= 0 && what <= 2, -2);
            int heat = !world.stove.isEmpty() && world.stove.get(0) == h ? world.stove.get(1) : -9;
            int[] answers = {world.frost.get(h), heat, world.coldPeople(h)};
            return answers[what];
        });
    }

    public int chill(int s, int h) {
        return asked(() -> {
            person(s);
            hour(h);
            return world.chill(s, h) + 100;
        });
    }

    public int coat(int s, int v) {
        return asked(() -> {
            Plain p = person(s);
            need(v >= 0 && v <= 9, -2);
            int was = p.coat;
            p.coat = v;
            return was;
        });
    }

    public int frost(int h, int v) {
        return asked(() -> {
            hour(h);
            need(v >= 0 && v <= 9, -2);
            return world.frost.set(h, v);
        });
    }

    public int swear(int s, int t, int h) {
        return asked(() -> {
            person(s);
            person(t);
            need(s != t, -1);
            hour(h);
            need(world.oaths.size() < 6, -4);
            world.oaths.add(new Oath(s, t, h));
            return world.oaths.size() - 1;
        });
    }

    public int release(int i) {
        return asked(() -> {
            need(i >= 0 && i < world.oaths.size(), -1);
            world.oaths.remove(i);
            return world.oaths.size();
        });
    }

    public int stove(int h, int v) {
        return asked(() -> {
            aDay();
            if (h == -9) {
                world.stove.clear();
            } else {
                hour(h);
                need(v >= 0 && v <= 9, -2);
                world.setStove(h, v);
            }
            return Integer.bitCount(world.binding());
        });
    }

    public int trial(int sheet, int lane, int i, int n, int what) {
        return faulty(() -> {
            need(sheet >= 0 && sheet <= 3, -1);
            need(lane >= 0 && lane <= 2 && n >= 0 && n <= 20, -2);
            need(List.of(0, 1, 2, 3, 4, 10, 11, 12, 13).contains(what), -2);
            int[] row = taken(sheets[sheet], lane);
            Objects.checkFromIndexSize(i, 2 * n, row.length);
            aDay();
            int[] pairs = Arrays.copyOfRange(row, i, i + 2 * n);
            for (int k = 0; k < n; k++) {
                need(pairs[2 * k + 1] >= 0 && pairs[2 * k + 1] <= 17, -2);
                int most = pairs[2 * k + 1] == 17 ? 0 : pairs[2 * k + 1] == 10 ? 5 : 9;
                need(pairs[2 * k] >= 0 && pairs[2 * k] <= most, -2);
            }
            return afterCase(pairs, what);
        });
    }

    private int afterCase(int[] pairs, int what) {
        World w = world.again();
        for (int k = 0; 2 * k < pairs.length; k++) {
            try {
                act(w, pairs[2 * k], pairs[2 * k + 1]);
            } catch (IndexOutOfBoundsException e) {
                return what == 1 ? k : -100 - k;
            }
        }
        switch (what) {
            case 0: return w.binding();
            case 1: return -9;
            case 2: return w.oaths.size();
            case 3:
                int times = 0;
                for (int h = 0; h < w.frost.size(); h++) {
                    times += Integer.bitCount(w.coldPeople(h));
                }
                return times;
            case 4: return Integer.bitCount(w.letGo());
            default: return what - 10 < w.people.size() ? w.coldHours(what - 10) : -9;
        }
    }

    private static void act(World w, int first, int second) {
        if (second <= 3) {
            w.people.get(second).coat = first;
        } else if (second <= 9) {
            w.frost.set(second - 4, first);
        } else if (second == 10) {
            w.oaths.remove(first);
        } else if (second <= 16) {
            w.frost.get(second - 11);
            w.setStove(second - 11, first);
        } else {
            w.stove.clear();
        }
    }

    public int bound(int s, int t) {
        return asked(() -> {
            person(s);
            person(t);
            return world.shortest(s, t, world.binding());
        });
    }

    public int together(int set) {
        return asked(() -> {
            peopleOf(set);
            for (int h = 0; h < world.frost.size(); h++) {
                if ((world.coldPeople(h) & set) == set) {
                    return h;
                }
            }
            return -9;
        });
    }

    public int coated(int set) {
        return asked(() -> {
            peopleOf(set);
            int warm = setOf(world.people.size(), s -> world.coldHours(s) == 0) & set;
            return warm == 0 ? -9 : Integer.numberOfTrailingZeros(warm);
        });
    }

    public int letgo(int what) {
        return asked(() -> {
            need(what == 0 || what == 1, -2);
            aDay();
            return what == 1 ? world.letGo() : Integer.bitCount(world.letGo());
        });
    }

    public int stoves(int set, int what) {
        return asked(() -> {
            need(set >= 0 && set <= 63 && what >= 0 && what <= 2, -2);
            aDay();
            need(set >> world.oaths.size() == 0, -1);
            List<int[]> found = new ArrayList<>();
            for (int hv = 0; hv < 10 * world.frost.size(); hv++) {
                World w = world.again();
                w.setStove(hv / 10, hv % 10);
                if ((w.binding() ^ set) == (1 << w.oaths.size()) - 1) {
                    found.add(new int[] {found.size(), hv / 10, hv % 10});
                }
            }
            return what == 0 ? found.size() : found.isEmpty() ? -9 : found.get(0)[what];
        });
    }

    public int reading(int s, int h, int cold) {
        return asked(() -> {
            person(s);
            hour(h);
            need(cold == 0 || cold == 1, -2);
            need(readings.size() < 8, -4);
            readings.add(new Reading(s, h, cold == 1));
            return readings.size() - 1;
        });
    }

    public int back(int n) {
        return asked(() -> {
            need(n >= 0 && n <= readings.size(), -2);
            readings.subList(readings.size() - n, readings.size()).clear();
            return readings.size();
        });
    }

    public int coats(int s) {
        return asked(() -> {
            person(s);
            return setOf(10, v -> {
                World w = world.again();
                w.people.get(s).coat = v;
                return w.agrees();
            });
        });
    }

    public int kinds(int s) {
        return asked(() -> {
            person(s);
            return setOf(3, kind -> {
                World w = world.again();
                w.people.set(s, made(kind, w.people.get(s).coat));
                return w.agrees();
            });
        });
    }

    public int frosts(int h) {
        return asked(() -> {
            hour(h);
            return setOf(10, v -> {
                World w = world.again();
                w.frost.set(h, v);
                return w.agrees();
            });
        });
    }

    /** Counts the rows of hours, all of them, and lessens by the common divisor. */
    public long odds(int s, int n, int which) {
        if (s < 0 || s >= world.people.size() || n < 0 || n > 8 || which < 0 || which > 1) {
            return LOST;
        }
        long all = Math.round(Math.pow(world.frost.size(), n));
        long good = Math.round(Math.pow(Integer.bitCount(world.coldHours(s)), n));
        long a = all;
        long b = good;
        while (b != 0) {
            long rest = a % b;
            a = b;
            b = rest;
        }
        return which == 0 ? good / a : all / a;
    }

    public int sheet(int k, int lane, int n) {
        return faulty(() -> {
            need(k >= 0 && k <= 3, -1);
            need(lane >= 0 && lane <= 2 && n <= 60, -2);
            sheets[k] = lane == 0 ? new byte[n] : lane == 1 ? new short[n] : (Object) new int[n];
            return 1;
        });
    }

    public int lose(int k) {
        return asked(() -> {
            need(k >= 0 && k <= 3, -1);
            int had = sheets[k] == null ? 0 : 1;
            sheets[k] = null;
            return had;
        });
    }

    public int put(int k, int i, int v) {
        return faulty(() -> {
            need(k >= 0 && k <= 3, -1);
            if (sheets[k] instanceof byte[] bytes) {
                bytes[i] = (byte) v;
            } else if (sheets[k] instanceof short[] shorts) {
                shorts[i] = (short) v;
            } else {
                ((int[]) sheets[k])[i] = v;
            }
            return 1;
        });
    }

    public long cell(int k, int i, int lane) {
        long[] found = {LOST};
        faulty(() -> {
            need(k >= 0 && k <= 3, -1);
            need(lane >= 0 && lane <= 2, -2);
            found[0] = taken(sheets[k], lane)[i];
            return 1;
        });
        return found[0];
    }

    public int copy(int k, int i, int other, int j, int n) {
        return faulty(() -> {
            need(k >= 0 && k <= 3 && other >= 0 && other <= 3, -1);
            System.arraycopy(sheets[k], i, sheets[other], j, n);
            return n;
        });
    }

    public int tell(int s) {
        return asked(() -> person(s).tell());
    }

    public int pinch(int s) {
        return asked(() -> person(s).pinch());
    }

    public int as(int s, int kind) {
        return faulty(() -> {
            Object p = person(s);
            need(kind >= 0 && kind <= 2, -2);
            Plain same = kind == 0 ? (Plain) p : kind == 1 ? (Bearded) p : (Double) p;
            return same == p ? 1 : 0;
        });
    }

    public int trace() {
        return trace;
    }

    public int fault() {
        return fault;
    }

    public int many(int what) {
        return asked(() -> {
            need(what >= 0 && what <= 4, -2);
            int[] answers = {world.frost.size(), world.people.size(), world.oaths.size(),
                Integer.bitCount(world.binding()), readings.size()};
            return answers[what];
        });
    }

    private int asked(Body body) {
        try {
            return body.answer();
        } catch (Refused r) {
            return r.answer;
        }
    }

    private int faulty(Body body) {
        fault = 0;
        try {
            return body.answer();
        } catch (Refused r) {
            return r.answer;
        } catch (NullPointerException e) {
            fault = 1;
        } catch (ClassCastException | ArrayStoreException e) {
            fault = 2;
        } catch (IndexOutOfBoundsException e) {
            fault = 3;
        } catch (NegativeArraySizeException e) {
            fault = 4;
        }
        return -10 - fault;
    }

    private static void need(boolean so, int refusal) {
        if (!so) {
            throw new Refused(refusal);
        }
    }

    private void aDay() {
        need(!world.people.isEmpty(), -3);
    }

    private Plain person(int s) {
        need(s >= 0 && s < world.people.size(), -1);
        return world.people.get(s);
    }

    private void hour(int h) {
        need(h >= 0 && h < world.frost.size(), -1);
    }

    private void peopleOf(int set) {
        need(set >= 0 && set <= 15, -2);
        aDay();
        need(set >> world.people.size() == 0, -1);
    }

    private static int setOf(int n, Test test) {
        int set = 0;
        for (int k = 0; k < n; k++) {
            if (test.holds(k)) {
                set += 1 << k;
            }
        }
        return set;
    }

    private Plain made(int kind, int coat) {
        Plain p = kind == 2 ? new Double() : kind == 1 ? new Bearded() : new Plain();
        p.coat = coat;
        return p;
    }

    private static int kindOf(Plain p) {
        return p instanceof Double ? 2 : p instanceof Bearded ? 1 : 0;
    }

    private static int[] taken(Object row, int lane) {
        int[] cells;
        if (lane == 0) {
            byte[] bytes = (byte[]) row;
            cells = new int[bytes.length];
            for (int i = 0; i < cells.length; i++) {
                cells[i] = bytes[i];
            }
        } else if (lane == 1) {
            short[] shorts = (short[]) row;
            cells = new int[shorts.length];
            for (int i = 0; i < cells.length; i++) {
                cells[i] = shorts[i];
            }
        } else {
            cells = ((int[]) row).clone();
        }
        return cells;
    }

    /** The length of the longest beginning with which a text goes on; -1: it is a text. */
    private static int firstFault(int[] codes) {
        StringBuilder told = new StringBuilder();
        for (int place = 0; place < codes.length; place++) {
            told.append(codes[place] > 0 && codes[place] < 128 ? (char) codes[place] : '?');
            if (!goesOn(told.toString())) {
                return place;
            }
        }
        return TEXT.matcher(told).matches() ? -1 : codes.length;
    }

    private static boolean goesOn(String told) {
        Matcher m = TEXT.matcher(told);
        if (!m.matches() && !m.hitEnd()) {
            return false;
        }
        String[] parts = told.split(",", -1);
        String[] head = parts[0].split(";", -1);
        int hours = head[0].length() - 1;
        int people = head.length - 1;
        for (int k = 1; k < parts.length; k++) {
            String oath = parts[k];
            boolean wrong = oath.length() > 0 && oath.charAt(0) - '0' >= people
                || oath.length() > 1 && (oath.charAt(1) - '0' >= people || oath.charAt(1) == oath.charAt(0))
                || oath.length() > 2 && oath.charAt(2) - '0' >= hours;
            if (wrong) {
                return false;
            }
        }
        return true;
    }

    private void build(int[] codes) {
        String told = new String(codes, 0, codes.length);
        String[] parts = told.split(",");
        String[] head = parts[0].split(";");
        World w = new World();
        head[0].substring(1).chars().forEach(c -> w.frost.add(c - '0'));
        for (int k = 1; k < head.length; k++) {
            w.people.add(made("pbd".indexOf(head[k].charAt(0)), head[k].charAt(1) - '0'));
        }
        for (int k = 1; k < parts.length; k++) {
            w.oaths.add(new Oath(parts[k].charAt(0) - '0', parts[k].charAt(1) - '0', parts[k].charAt(2) - '0'));
        }
        world = w;
        readings.clear();
    }
}
