/** All that can be asked of an object without changing it, but for fault(). */
final class State {
    private State() {
    }

    /** Some 190 calls; of each sheet the first four cells are looked at. */
    static String of(ColdOaths x) {
        StringBuilder told = new StringBuilder();
        asked(told, x, "trace", new int[0]);
        asked(told, x, "many", new int[] {5});
        asked(told, x, "ofSwearer", new int[] {4, 6});
        asked(told, x, "ofOath", new int[] {6, 5});
        asked(told, x, "ofHour", new int[] {6, 3});
        asked(told, x, "coats", new int[] {4});
        asked(told, x, "kinds", new int[] {4});
        asked(told, x, "frosts", new int[] {6});
        asked(told, x, "cell", new int[] {4, 4, 3});
        return told.toString();
    }

    /** A call with all arguments below the bounds. */
    private static void asked(StringBuilder told, ColdOaths x, String call, int[] bounds) {
        int all = 1;
        for (int bound : bounds) {
            all *= bound;
        }
        told.append(call);
        for (int k = 0; k < all; k++) {
            int[] args = new int[bounds.length];
            int rest = k;
            for (int a = bounds.length - 1; a >= 0; a--) {
                args[a] = rest % bounds[a];
                rest /= bounds[a];
            }
            told.append(' ').append(Call.of(x, call, args));
            if (call.equals("cell")) {
                told.append('/').append(x.fault());
            }
        }
        told.append('\n');
    }
}
