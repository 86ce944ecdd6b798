/** Days and sheets for the tests. */
final class Days {
    /** Hours 5 2 9 0; a plain, a bearded, a double and another plain one; a ring 0 1 2, and 0 and 3. */
    static final String USUAL = "o5290;p3;b1;d2;p0,010,120,202,031,301";

    private Days() {
    }

    static void write(ColdOaths x, int sheet, int lane, String text) {
        x.sheet(sheet, lane, text.length());
        for (int i = 0; i < text.length(); i++) {
            x.put(sheet, i, text.charAt(i));
        }
    }

    static void numbers(ColdOaths x, int sheet, int lane, int... cells) {
        x.sheet(sheet, lane, cells.length);
        for (int i = 0; i < cells.length; i++) {
            x.put(sheet, i, cells[i]);
        }
    }

    /** What day() answers to a text, told by bytes of sheet 0. */
    static int tell(ColdOaths x, String text) {
        write(x, 0, 0, text);
        return x.day(0, 0, 0, text.length());
    }

    static ColdOaths of(String text) {
        ColdOaths x = new ColdOaths();
        if (tell(x, text) < 0) {
            throw new IllegalArgumentException("no text: " + text);
        }
        return x;
    }
}
