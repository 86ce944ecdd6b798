/** Part 1 of the Terms, and promises 1 to 8. */
final class DayEdges {
    private static final int MIN = Integer.MIN_VALUE, MAX = Integer.MAX_VALUE;
    /** As long as a text can be: 43 codes. */
    private static final String LONGEST = "o987654;p1;b2;d3;p4,325,015,100,234,121,303";

    private final Edges e;

    DayEdges(Edges e) {
        this.e = e;
    }

    void run() {
        hours();
        swearers();
        kindAndCoat();
        oaths();
        oath();
        firstFault();
        seventhHour();
        fifthSwearer();
        seventhOath();
        oneSwearerAlone();
        endsTooSoon();
        codes();
        kinds();
        allAnew();
        warmth();
        chillOfAnHour();
        cold();
        binds();
        promise1();
        promise2();
        promise2Refused();
        promises3To5();
        promises6To8();
    }

    private void hours() {
        e.sentence(0, "A DAY by a TEXT: o, then 1 to 6 digits 0 .. 9 (FROST of HOURS 0, 1, ..),");
        e.firstFault(0, "");
        e.firstFault(0, "O5;p3");
        e.firstFault(0, "n5;p3");
        e.firstFault(0, "p5;p3");
        e.firstFault(0, "5;p3");
        e.firstFault(1, "oo5;p3");
        e.firstFault(1, "o;p3");
        e.firstFault(1, "o/;p3");
        e.firstFault(1, "o:;p3");
        e.firstFault(2, "o5/;p3");
        e.firstFault(2, "o5:;p3");
        e.firstFault(6, "o12345-;p3");
        String frost = "908172";
        for (int n = 1; n <= 6; n++) {
            ColdOaths x = Days.of("o" + frost.substring(0, n) + ";p3");
            e.is("hours of " + n, x.many(0), n);
            for (int h = 0; h < n; h++) {
                e.due(x, frost.charAt(h) - '0', "ofHour", h, 0);
            }
            e.due(x, -1, "ofHour", n, 0);
        }
    }

    private void swearers() {
        e.sentence(0, "then 1 to 4 SWEARERS, numbered from 0 on,");
        e.firstFault(2, "o5");
        e.firstFault(2, "o5,010");
        e.firstFault(2, "o5p3");
        String all = ";p1;b2;d3;p4";
        for (int n = 1; n <= 4; n++) {
            ColdOaths x = Days.of("o5" + all.substring(0, 3 * n));
            e.is("swearers of " + n, x.many(1), n);
            for (int s = 0; s < n; s++) {
                e.due(x, s % 3, "ofSwearer", s, 0);
                e.due(x, s + 1, "ofSwearer", s, 1);
            }
            e.due(x, -1, "ofSwearer", n, 0);
        }
    }

    private void kindAndCoat() {
        e.sentence(0, "each: ; and a letter (its kind), a digit 0 .. 9 (COAT);");
        for (String letter : new String[] {"a", "c", "e", "o", "q", "P", "B", "D", ";", ",", "0", "9", " "}) {
            e.firstFault(3, "o5;" + letter + "3");
            e.firstFault(6, "o5;p3;" + letter + "3");
        }
        for (String digit : new String[] {"/", ":", "p", ";", ",", " "}) {
            e.firstFault(4, "o5;p" + digit);
            e.firstFault(7, "o5;p3;b" + digit);
        }
        e.firstFault(5, "o5;p30");
        e.firstFault(5, "o5;p3p");
        for (int coat = 0; coat <= 9; coat++) {
            e.due(Days.of("o5;p3;d" + coat), coat, "ofSwearer", 1, 1);
        }
    }

    private void oaths() {
        e.sentence(0, "then 0 to 6 OATHS, numbered from 0 on,");
        String all = ",010,101,010,101,011,100";
        for (int n = 0; n <= 6; n++) {
            ColdOaths x = Days.of("o55;p3;b2" + all.substring(0, 4 * n));
            e.is("oaths of " + n, x.many(2), n);
            for (int i = 0; i < n; i++) {
                e.due(x, all.charAt(4 * i + 1) - '0', "ofOath", i, 0);
                e.due(x, all.charAt(4 * i + 2) - '0', "ofOath", i, 1);
                e.due(x, all.charAt(4 * i + 3) - '0', "ofOath", i, 2);
            }
            e.due(x, -1, "ofOath", n, 0);
        }
    }

    private void oath() {
        e.sentence(0, "each: a comma and three digits: who swears, to whom (another one, both that there are), "
            + "at which HOUR (one that there is).");
        for (int people = 2; people <= 4; people++) {
            String text = "o123" + ";p1;b2;d3;p4".substring(0, 3 * people) + ",";
            int last = people - 1;
            e.text(people, text + last + "02");
            e.text(people, text + "0" + last + "0");
            e.firstFault(text.length(), text + people + "00");
            e.firstFault(text.length(), text + "9");
            e.firstFault(text.length(), text + "/");
            e.firstFault(text.length(), text + ",");
            e.firstFault(text.length() + 1, text + "0" + people + "0");
            e.firstFault(text.length() + 1, text + "000");
            e.firstFault(text.length() + 1, text + last + last + "0");
            e.firstFault(text.length() + 1, text + "0/0");
            e.firstFault(text.length() + 2, text + "013");
            e.firstFault(text.length() + 2, text + "01/");
            e.firstFault(text.length() + 2, text + "01,");
            e.firstFault(text.length() + 3, text + "0100");
            e.firstFault(text.length() + 3, text + "010;p1");
        }
        e.text(2, "o5;p1;p1,010");
        e.firstFault(11, "o5;p1;p1,011");
        e.text(2, "o555555;p1;p1,015");
        e.firstFault(16, "o555555;p1;p1,016");
        e.text(2, "o5;p1;p1,010,010");
    }

    private void firstFault() {
        e.sentence(0, "FIRST FAULT: the place (from 0 on) of the first code with which no TEXT goes on");
        e.firstFault(0, "xxxx");
        e.firstFault(1, "oxxx");
        e.firstFault(2, "o5xx;p3");
        e.firstFault(3, "o5;xx");
        e.firstFault(4, "o5;pxx");
        e.firstFault(5, "o5;p3xx");
        e.firstFault(6, "o5;p3;xx");
        e.firstFault(9, "o5;p3;b2,xx");
        e.firstFault(12, "o5;p3;b2,010xx");
        e.firstFault(43, LONGEST + "x");
        e.firstFault(43, LONGEST + "0");
        e.firstFault(43, LONGEST + ";");
        ColdOaths x = new ColdOaths();
        Days.write(x, 0, 2, LONGEST);
        for (int code : new int[] {MIN, -1, 0, 127, 128, 255, 256 + '5', 65536 + '5', MAX}) {
            x.put(0, 3, code);
            e.clean(x, -103, "day", 0, 2, 0, 43);
        }
        Days.write(x, 1, 1, "o5" + (char) (256 + ';') + "p3");
        e.clean(x, -102, "day", 1, 1, 0, 5);
    }

    private void seventhHour() {
        e.sentence(0, "a seventh HOUR,");
        e.text(1, "o123456;p3");
        e.firstFault(7, "o1234567;p3");
        e.firstFault(7, "o1234560");
        e.firstFault(7, "o12345678");
    }

    private void fifthSwearer() {
        e.sentence(0, "the ; of a fifth SWEARER,");
        e.text(4, "o5;p1;p2;p3;p4");
        e.text(4, "o5;p1;p2;p3;p4,010");
        e.firstFault(14, "o5;p1;p2;p3;p4;");
        e.firstFault(14, "o5;p1;p2;p3;p4;p5");
        e.firstFault(14, "o5;p1;p2;p3;p4;x");
    }

    private void seventhOath() {
        e.sentence(0, "the comma of a seventh OATH;");
        String six = "o5;p3;b2,010,010,010,010,010,010";
        e.text(2, six);
        e.firstFault(six.length(), six + ",");
        e.firstFault(six.length(), six + ",010");
        e.firstFault(six.length(), six + ",x");
    }

    private void oneSwearerAlone() {
        e.sentence(0, "with one SWEARER alone, to whom no OATH can be, the digit to whom it is, "
            + "as if there were another one ahead of it");
        e.text(1, "o5;p3");
        for (char to = '0'; to <= '9'; to++) {
            e.firstFault(7, "o5;p3,0" + to);
            e.firstFault(7, "o5;p3,0" + to + "0");
        }
        e.firstFault(7, "o5;p3,0,");
        e.firstFault(7, "o5;p3,0;");
        e.firstFault(6, "o5;p3,");
        e.firstFault(7, "o5;p3,0");
        // Who swears is one that there is, ahead of it too.
        e.firstFault(6, "o5;p3,1");
        e.firstFault(6, "o5;p3,10");
        e.firstFault(6, "o5;p3,,");
    }

    private void endsTooSoon() {
        e.sentence(0, "how many codes there are, if it just ends too soon.");
        String text = "o98;p1;b2,011,100";
        for (int n = 0; n < text.length(); n++) {
            boolean whole = n == 6 || n == 9 || n == 13;
            e.text(whole ? (n == 6 ? 1 : 2) : -100 - n, text.substring(0, n));
        }
        e.text(2, text);
        e.firstFault(7, "o123456");
        e.firstFault(42, LONGEST.substring(0, 42));
    }

    private void codes() {
        e.sentence(0, "(Codes: o 111, p 112, b 98, d 100, ; 59, the comma 44, digits 48 .. 57.)");
        for (int lane = 0; lane < 3; lane++) {
            ColdOaths x = new ColdOaths();
            Days.numbers(x, 3, lane, 111, 48, 57, 59, 112, 48, 59, 98, 57, 59, 100, 53, 44, 48, 50, 49);
            e.clean(x, 3, "day", 3, lane, 0, 16);
            e.due(x, 0, "ofHour", 0, 0);
            e.due(x, 9, "ofHour", 1, 0);
            e.due(x, 9, "ofSwearer", 1, 1);
            e.due(x, 2, "ofOath", 0, 1);
        }
    }

    private void kinds() {
        e.sentence(0, "Kinds: 0 PLAIN (p); 1 BEARDED (b), a PLAIN one; 2 DOUBLE (d), a BEARDED one.");
        ColdOaths x = Days.of("o5;p1;b1;d1");
        for (int s = 0; s < 3; s++) {
            e.due(x, s, "ofSwearer", s, 0);
            for (int kind = 0; kind < 3; kind++) {
                e.due(x, kind <= s ? 1 : -12, "as", s, kind);
            }
        }
    }

    private void allAnew() {
        e.sentence(0, "A TEXT that is taken makes all anew: there is no STOVE, no READINGS.");
        ColdOaths x = Days.of(LONGEST);
        x.stove(0, 9);
        for (int k = 0; k < 8; k++) {
            x.reading(0, 0, 1);
        }
        x.coat(0, 9);
        x.frost(0, 0);
        e.is("a day of less", Days.tell(x, "o9;p1"), 1);
        ColdOaths y = Days.of("o9;p1");
        e.same("all is as with a new object", State.of(x), State.of(y));
        e.due(x, -9, "ofHour", 0, 1);
        e.due(x, 0, "many", 4);
        e.due(x, 0, "reading", 0, 0, 1);
        x.stove(0, 5);
        // Questions by stoves and coats that are not leave nothing for the next day either.
        x.stoves(0, 0);
        x.coats(0);
        e.is("the same day again", Days.tell(x, "o9;p1"), 1);
        e.due(x, -9, "ofHour", 0, 1);
        e.due(x, 108, "chill", 0, 0);
        e.due(x, -2, "back", 1);
        x.stoves(0, 0);
        e.is("and again", Days.tell(x, "o9;p1"), 1);
        e.due(x, -9, "ofHour", 0, 1);
    }

    private void warmth() {
        e.sentence(0, "WARMTH of a SWEARER: a PLAIN one's is COAT; a BEARDED one's 1 more; "
            + "a DOUBLE one's twice what a PLAIN one's is.");
        for (int coat = 0; coat <= 9; coat++) {
            ColdOaths x = Days.of("o5;p" + coat + ";b" + coat + ";d" + coat);
            e.due(x, coat, "ofSwearer", 0, 2);
            e.due(x, coat + 1, "ofSwearer", 1, 2);
            e.due(x, 2 * coat, "ofSwearer", 2, 2);
        }
    }

    private void chillOfAnHour() {
        e.sentence(0, "CHILL at an HOUR: FROST less the heat of the STOVE, if that stands there, less WARMTH.");
        ColdOaths x = Days.of("o009;p0;b9;d9");
        e.due(x, 109, "chill", 0, 2);
        e.due(x, 82, "chill", 2, 0);
        e.due(x, 90, "chill", 1, 1);
        x.stove(0, 9);
        e.due(x, 73, "chill", 2, 0);
        e.due(x, 91, "chill", 0, 0);
        e.due(x, 82, "chill", 2, 1);
        e.due(x, 109, "chill", 0, 2);
        x.stove(0, 0);
        e.due(x, 82, "chill", 2, 0);
    }

    private void cold() {
        e.sentence(0, "A SWEARER is COLD then, if that is above 0.");
        ColdOaths x = Days.of("o456;p5;b4;d2");
        e.due(x, 0b100, "ofSwearer", 0, 3);
        e.due(x, 0b100, "ofSwearer", 1, 3);
        e.due(x, 0b110, "ofSwearer", 2, 3);
        e.due(x, 100, "chill", 0, 1);
        e.due(x, 101, "chill", 0, 2);
        x.stove(2, 1);
        e.due(x, 100, "chill", 0, 2);
        e.due(x, 0, "ofSwearer", 0, 3);
        e.due(x, 0b100, "ofHour", 2, 2);
        e.due(Days.of("o0;p0"), 0, "ofSwearer", 0, 3);
    }

    private void binds() {
        e.sentence(0, "An OATH BINDS, if whoever swears it is COLD at its HOUR.");
        // To whom it is may be cold or not, and whoever swears may be cold at other hours.
        ColdOaths x = Days.of("o12;p1;p0,010,011,100,101");
        e.due(x, 0, "ofOath", 0, 4);
        e.due(x, 1, "ofOath", 1, 4);
        e.due(x, 1, "ofOath", 2, 4);
        e.due(x, 1, "ofOath", 3, 4);
        x.coat(1, 2);
        e.due(x, 1, "ofOath", 1, 4);
        e.due(x, 0, "ofOath", 2, 4);
        e.due(x, 0, "ofOath", 3, 4);
    }

    private void promise1() {
        e.sentence(1, "No DAY (no HOURS, SWEARERS, OATHS), SHEETS have nothing.");
        ColdOaths x = new ColdOaths();
        for (int what = 0; what <= 4; what++) {
            e.due(x, 0, "many", what);
        }
        e.due(x, 0, "trace");
        e.due(x, 0, "fault");
        e.due(x, -1, "ofSwearer", 0, 0);
        e.due(x, -1, "ofOath", 0, 0);
        e.due(x, -1, "ofHour", 0, 0);
        e.due(x, -1, "chill", 0, 0);
        e.due(x, -1, "coat", 0, 0);
        e.due(x, -1, "frost", 0, 0);
        e.due(x, -1, "swear", 0, 1, 0);
        e.due(x, -1, "release", 0);
        e.due(x, -3, "stove", 0, 0);
        e.due(x, -1, "bound", 0, 0);
        e.due(x, -3, "together", 0);
        e.due(x, -3, "coated", 0);
        e.due(x, -3, "letgo", 0);
        e.due(x, -3, "stoves", 0, 0);
        e.due(x, -1, "reading", 0, 0, 0);
        e.due(x, 0, "back", 0);
        e.due(x, -1, "coats", 0);
        e.due(x, -1, "kinds", 0);
        e.due(x, -1, "frosts", 0);
        e.due(x, ColdOaths.LOST, "odds", 0, 0, 0);
        e.due(x, -1, "tell", 0);
        e.due(x, -1, "pinch", 0);
        e.due(x, -1, "as", 0, 0);
        for (int k = 0; k < 4; k++) {
            e.fails(x, 1, "day", k, 0, 0, 0);
            e.fails(x, 1, "trial", k, 0, 0, 0, 0);
            e.fails(x, 1, "put", k, 0, 0);
            e.fails(x, 1, "cell", k, 0, 0);
            e.due(x, 0, "lose", k);
        }
    }

    private void promise2() {
        e.sentence(2, "A DAY by a TEXT of n cells of a SHEET from i on, taken as a row of a LANE: how many SWEARERS;");
        for (int lane = 0; lane < 3; lane++) {
            ColdOaths x = new ColdOaths();
            Days.write(x, lane, lane, "ooo5;p3;p3;p3;p3,");
            for (int people = 1; people <= 4; people++) {
                e.clean(x, people, "day", lane, lane, 2, 2 + 3 * people);
                e.due(x, people, "many", 1);
            }
        }
        ColdOaths x = new ColdOaths();
        x.sheet(0, 0, 60);
        Days.write(x, 1, 0, "o5;p3");
        x.copy(1, 0, 0, 55, 5);
        e.clean(x, 1, "day", 0, 0, 55, 5);
        e.fails(x, 3, "day", 0, 0, 55, 6);
        e.fails(x, 3, "day", 0, 0, 56, 5);

        e.sentence(2, "-100 less the FIRST FAULT.");
        e.firstFault(0, "");
        e.firstFault(1, "o");
        e.firstFault(42, LONGEST.substring(0, 42));
        Days.write(x, 2, 2, "xxxo5;p3;");
        e.clean(x, -106, "day", 2, 2, 3, 6);
        e.clean(x, -104, "day", 2, 2, 3, 4);
        e.clean(x, -100, "day", 2, 2, 4, 5);
        e.clean(x, -100, "day", 2, 2, 9, 0);
        ColdOaths kept = Days.of(LONGEST);
        kept.stove(2, 2);
        kept.reading(1, 1, 1);
        String was = State.of(kept);
        Days.numbers(kept, 3, 0, 'o', '1', ';', 'd');
        e.clean(kept, -104, "day", 3, 0, 0, 4);
        kept.lose(3);
        e.same("a text that is none changes nothing", State.of(kept), was);
    }

    private void promise2Refused() {
        ColdOaths x = new ColdOaths();
        Days.write(x, 1, 1, "o5;p3");
        e.sentence(2, "UNKNOWN; OUTSIDE: lane;");
        for (int sheet : new int[] {MIN, -1, 4, MAX}) {
            e.clean(x, -1, "day", sheet, 3, -1, -1);
        }
        for (int lane : new int[] {MIN, -1, 3, MAX}) {
            e.clean(x, -2, "day", 1, lane, -1, -1);
            e.clean(x, -2, "day", 0, lane, -1, -1);
        }

        e.sentence(2, "FAULTS CAST (nothing is no CAST), NULL,");
        for (int lane = 0; lane < 3; lane++) {
            e.fails(x, 1, "day", 0, lane, -1, -1);
        }
        e.fails(x, 2, "day", 1, 0, 0, 5);
        e.fails(x, 2, "day", 1, 2, 0, 5);
        e.fails(x, 2, "day", 1, 0, -1, -1);
        x.sheet(2, 0, 0);
        e.fails(x, 2, "day", 2, 1, 0, 0);

        e.sentence(2, "SIZE: n is below 0,");
        e.fails(x, 4, "day", 1, 1, 0, -1);
        e.fails(x, 4, "day", 1, 1, -1, -1);
        e.fails(x, 4, "day", 1, 1, 6, MIN);
        e.clean(x, -100, "day", 1, 1, 0, 0);

        e.sentence(2, "INDEX: not all cells are there; -100 less it.");
        e.fails(x, 3, "day", 1, 1, 0, 6);
        e.fails(x, 3, "day", 1, 1, 1, 5);
        e.fails(x, 3, "day", 1, 1, 5, 1);
        e.fails(x, 3, "day", 1, 1, -1, 5);
        e.fails(x, 3, "day", 1, 1, -1, 6);
        e.fails(x, 3, "day", 1, 1, 1, MAX);
        e.fails(x, 3, "day", 1, 1, MAX, 1);
        e.fails(x, 3, "day", 1, 1, MAX, MAX);
        e.fails(x, 3, "day", 1, 1, MIN, MAX);
        e.is("no day by any of them", x.many(1), 0);
        e.clean(x, -104, "day", 1, 1, 0, 4);
        e.clean(x, 1, "day", 1, 1, 0, 5);
    }

    private void promises3To5() {
        ColdOaths x = Days.of("o90;b8;d9;p0,010,011,200");
        e.sentence(3, "Of a SWEARER: 0 kind, 1 COAT, 2 WARMTH, 3 HOURS at which they are COLD, as a set, "
            + "4 OATHS that they swore, as a set, 5 those of them that BIND, as a set.");
        int[][] people = {{1, 8, 9, 0, 0b011, 0}, {2, 9, 18, 0, 0, 0}, {0, 0, 0, 0b01, 0b100, 0b100}};
        for (int s = 0; s < 3; s++) {
            for (int what = 0; what <= 5; what++) {
                e.due(x, people[s][what], "ofSwearer", s, what);
            }
        }
        e.sentence(3, "UNKNOWN; OUTSIDE.");
        refusedByWhat(x, "ofSwearer", 3, 6);

        e.sentence(4, "Of an OATH: 0 who swears, 1 to whom, 2 HOUR, 3 CHILL of whoever swears then, and 100, "
            + "4 whether it BINDS (1, 0).");
        int[][] oaths = {{0, 1, 0, 100, 0}, {0, 1, 1, 91, 0}, {2, 0, 0, 109, 1}};
        for (int i = 0; i < 3; i++) {
            for (int what = 0; what <= 4; what++) {
                e.due(x, oaths[i][what], "ofOath", i, what);
            }
        }
        e.sentence(4, "UNKNOWN; OUTSIDE.");
        refusedByWhat(x, "ofOath", 3, 5);

        e.sentence(5, "Of an HOUR: 0 FROST, 1 heat of the STOVE there (NONE: there is none), "
            + "2 who is COLD then, as a set.");
        x.stove(0, 0);
        int[][] hours = {{9, 0, 0b100}, {0, -9, 0}};
        for (int h = 0; h < 2; h++) {
            for (int what = 0; what <= 2; what++) {
                e.due(x, hours[h][what], "ofHour", h, what);
            }
        }
        x.stove(1, 9);
        e.due(x, -9, "ofHour", 0, 1);
        e.due(x, 9, "ofHour", 1, 1);
        x.stove(-9, 0);
        e.due(x, -9, "ofHour", 1, 1);
        e.sentence(5, "UNKNOWN; OUTSIDE.");
        refusedByWhat(x, "ofHour", 2, 3);
    }

    private void refusedByWhat(ColdOaths x, String call, int numbers, int whats) {
        for (int wrong : new int[] {MIN, -1, numbers, MAX}) {
            e.due(x, -1, call, wrong, 0);
            e.due(x, -1, call, wrong, whats);
        }
        for (int wrong : new int[] {MIN, -1, whats, MAX}) {
            for (int k = 0; k < numbers; k++) {
                e.due(x, -2, call, k, wrong);
            }
        }
    }

    private void promises6To8() {
        e.sentence(6, "CHILL of a SWEARER at an HOUR, and 100.");
        ColdOaths x = Days.of("o09;p0;d9");
        e.due(x, 100, "chill", 0, 0);
        e.due(x, 109, "chill", 0, 1);
        e.due(x, 82, "chill", 1, 0);
        x.stove(0, 9);
        e.due(x, 73, "chill", 1, 0);
        e.sentence(6, "UNKNOWN: either.");
        for (int wrong : new int[] {MIN, -9, -1, 2, MAX}) {
            e.due(x, -1, "chill", wrong, 0);
            e.due(x, -1, "chill", 0, wrong);
            e.due(x, -1, "chill", wrong, wrong);
        }

        e.sentence(7, "COAT of a SWEARER becomes v (0 .. 9): what it was.");
        becomes("coat", "ofSwearer");
        e.sentence(7, "UNKNOWN; OUTSIDE.");
        refusedBeyondDigits("coat", "ofSwearer", 1);

        e.sentence(8, "FROST of an HOUR becomes v (0 .. 9): what it was.");
        becomes("frost", "ofHour");
        e.sentence(8, "UNKNOWN; OUTSIDE.");
        refusedBeyondDigits("frost", "ofHour", 0);
    }

    /** Both swearers' coats and both hours' frosts are 5 at first; only the second one's is told anew. */
    private void becomes(String call, String asked) {
        int what = call.equals("coat") ? 1 : 0;
        ColdOaths x = Days.of("o55;p5;b5");
        int was = 5;
        for (int v : new int[] {0, 9, 9, 1, 8, 0}) {
            e.due(x, was, call, 1, v);
            e.due(x, v, asked, 1, what);
            e.due(x, 5, asked, 0, what);
            was = v;
        }
    }

    private void refusedBeyondDigits(String call, String asked, int what) {
        ColdOaths x = Days.of("o55;p5;b5");
        for (int wrong : new int[] {MIN, -1, 2, MAX}) {
            e.due(x, -1, call, wrong, 3);
            e.due(x, -1, call, wrong, 10);
        }
        for (int wrong : new int[] {MIN, -1, 10, MAX}) {
            e.due(x, -2, call, 1, wrong);
        }
        e.due(x, 5, asked, 0, what);
        e.due(x, 5, asked, 1, what);
    }
}
