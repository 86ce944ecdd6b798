import java.lang.reflect.Method;
import java.util.ArrayList;
import java.util.List;
import java.util.Random;

/** Runs of up to 512 calls, chosen by a fixed seed, on the class and on Model: both answer alike, none throws. */
public final class ModelTest {
    private static final int RUNS = 5000, CALLS = 512;
    private static final int[] EDGES = {Integer.MIN_VALUE, Integer.MAX_VALUE, -100, -10, 9, 10, 11, 15, 16, 20, 21,
        59, 60, 61, 63, 64, 1000};

    private final Due due;
    private final Random random;
    private final ColdOaths real = new ColdOaths();
    private final Model model = new Model();
    private final List<String> said = new ArrayList<>();
    private int left = CALLS;

    private ModelTest(Due due, long seed) {
        this.due = due;
        this.random = new Random(seed);
    }

    public static void main(String[] args) {
        Due due = new Due();
        Method[] calls = Call.all();
        for (long seed = 1; seed <= RUNS && due.allAsDue(); seed++) {
            new ModelTest(due, seed).run(calls);
        }
        due.end();
    }

    private void run(Method[] calls) {
        int hostility = random.nextInt(12);
        while (left > 0 && due.allAsDue()) {
            int turn = random.nextInt(100);
            if (turn < 3) {
                tellDay();
            } else if (turn < 8) {
                tellCase();
            } else {
                Method m = calls[random.nextInt(calls.length)];
                int[] args = new int[m.getParameterCount()];
                for (int k = 0; k < args.length; k++) {
                    args[k] = number(hostility);
                }
                say(m.getName(), args);
            }
        }
        if (!due.allAsDue()) {
            said.forEach(System.out::println);
        }
    }

    private int number(int hostility) {
        if (random.nextInt(40) < hostility) {
            return random.nextInt(2) == 0 ? EDGES[random.nextInt(EDGES.length)] : random.nextInt(90) - 15;
        }
        return random.nextInt(random.nextInt(3) == 0 ? 10 : 4);
    }

    private void tellDay() {
        String text = text();
        int sheet = random.nextInt(4);
        int lane = random.nextInt(3);
        int ahead = random.nextInt(3) == 0 ? random.nextInt(4) : 0;
        say("sheet", sheet, lane, Math.min(60, ahead + text.length()));
        for (int i = 0; i < text.length(); i++) {
            say("put", sheet, ahead + i, text.charAt(i));
        }
        say("day", sheet, lane, ahead, text.length());
    }

    private String text() {
        StringBuilder text = new StringBuilder("o");
        int hours = 1 + random.nextInt(6);
        int people = 1 + random.nextInt(4);
        int oaths = people == 1 ? 0 : random.nextInt(7);
        for (int h = 0; h < hours; h++) {
            text.append(random.nextInt(10));
        }
        for (int s = 0; s < people; s++) {
            text.append(';').append("pbd".charAt(random.nextInt(3))).append(random.nextInt(6));
        }
        for (int i = 0; i < oaths; i++) {
            int s = random.nextInt(people);
            int t = (s + 1 + random.nextInt(people - 1)) % people;
            text.append(',').append(s).append(t).append(random.nextInt(hours));
        }
        if (random.nextInt(3) == 0) {
            spoil(text);
        }
        return text.toString();
    }

    private void spoil(StringBuilder text) {
        int place = random.nextInt(text.length());
        char code = "o;,pbd0123456789:/x".charAt(random.nextInt(19));
        switch (random.nextInt(4)) {
            case 0:
                text.setLength(place);
                break;
            case 1:
                text.insert(place, code);
                break;
            case 2:
                text.append(code);
                break;
            default:
                text.setCharAt(place, code);
        }
    }

    private void tellCase() {
        int sheet = random.nextInt(4);
        int lane = random.nextInt(3);
        int pairs = random.nextInt(random.nextInt(4) == 0 ? 21 : 5);
        say("sheet", sheet, lane, 2 * pairs);
        for (int k = 0; k < pairs; k++) {
            int second = random.nextInt(25) == 0 ? random.nextInt(40) - 10 : random.nextInt(18);
            int first = second == 17 ? 0 : random.nextInt(second == 10 ? 4 : 10);
            say("put", sheet, 2 * k, random.nextInt(25) == 0 ? random.nextInt(40) - 10 : first);
            say("put", sheet, 2 * k + 1, second);
        }
        for (int what : new int[] {0, 1, 2, 3, 4, 10, 11, 12, 13}) {
            say("trial", sheet, lane, 0, pairs, what);
        }
    }

    private void say(String name, int... args) {
        if (left <= 0 || !due.allAsDue()) {
            return;
        }
        left--;
        String call = Call.told(name, args);
        long got = Call.of(real, name, args);
        said.add(call + " " + got);
        due.is(call, got, Call.of(model, name, args));
        // What these two tell counts among the 512 calls, so that not every call is followed by them.
        if (left > 1 && random.nextInt(3) == 0) {
            left -= 2;
            due.is(call + ", then fault()", real.fault(), model.fault());
            due.is(call + ", then trace()", real.trace(), model.trace());
        }
    }
}
