/**
 * The edges of promises 1 to 11: a new object, letters and VALLEYS, THINGS, THE WIRE, what can be
 * TAKEN BACK. Each test has its sentence.
 */
public final class WireEdgesTest {
    private static final Edges EDGES = new Edges("Promises 1 to 11");
    private static final String SIX = "make 003 127 211 329 445 552, ";
    private static final String NOTHING_COUNTED = ", count 11 = 0, count 12 = 0, count 13 = 0, "
        + "count 14 = 0, count 15 = 0, count 16 = 0";

    private static void newObject() {
        EDGES.test("1: No THINGS", "count 0 = 0, thingOf 0 0 = -1, place 0 0 = -1, cuts 0 = -1, "
            + "thing 0 0 0 = 0");
        for (int what = 1; what <= 7; what++) {
            EDGES.test("1: nothing there yet, count " + what, "count " + what + " = 0");
        }
        for (int what = 11; what <= 16; what++) {
            EDGES.test("1: no REFUSALS yet, count " + what, "count " + what + " = 0");
        }
        EDGES.test("1: no letters yet", "valley = -1000");
        EDGES.test("1: nothing to be TAKEN BACK yet", "back = -3");
        EDGES.test("1: no image yet", "restore = -3");
        EDGES.test("1: no ROW yet", "clear = 0, judge = -9, who 0 = 0");
    }

    private static void feed() {
        EDGES.test("2: how many there are", "feed 116 = 1, feed 48 = 2, feed 116 = 3, count 5 = 3");
        EDGES.test("2: -4", "feed -1 = -4, feed least = -4, count 5 = 0, count 14 = 2");
        EDGES.test("2: 0 is a letter", "feed 0 = 1, count 5 = 1, valley = -1000");
        EDGES.test("2: 255 is a letter", "feed 255 = 1, count 5 = 1, valley = -1000");
        EDGES.test("2: -6 255", "feed 256 = -6, feed greatest = -6, count 5 = 0, count 16 = 2");
        EDGES.test("2: -6 96, the last that is taken", "times 95 feed 116, feed 116 = 96, "
            + "count 5 = 96, count 16 = 0");
        EDGES.test("2: -6 96, the first that is not", "times 96 feed 116, feed 116 = -6, "
            + "feed 116 = -6, count 5 = 96, count 16 = 2");
        EDGES.test("2: with 96, -4 goes ahead", "times 96 feed 116, feed -1 = -4, count 16 = 0");
        EDGES.test("2: a letter refused does not come", "make 000 000, letters c, feed -1 = -4, "
            + "letters 0, feed 256 = -6, letters ;, valley = 1, count 3 = 1");
        EDGES.test("2: a 97th letter does not come, the 96 stay", "make 000 000, "
            + "times 31 letters c0;, letters c0;, letters c, valley = 32");
        EDGES.test("2: behind valley() there is room again", "times 96 feed 116, valley = -1001, "
            + "count 5 = 0, feed 116 = 1");
    }

    private static void told() {
        EDGES.test("a VALLEY: 96 letters at most", "make 000 000, times 32 letters c0;, "
            + "count 5 = 96, valley = 32, count 3 = 0");
        EDGES.test("how many STATEMENTS: one", "tell t000; = 1");
        EDGES.test("The letters are no more then", "tell t000; = 1, count 5 = 0, valley = -1000");
        EDGES.test("with a FAULT of kind 1 neither", "tell t000 = -1004, count 5 = 0, "
            + "valley = -1000");
        EDGES.test("with a FAULT of kind 2 neither", "tell t600; = -2000, count 5 = 0, "
            + "valley = -1000");
        EDGES.test("t KIND, FIGURE, FARM", "tell t578; = 1, thingOf 0 0 = 5, thingOf 0 1 = 7, "
            + "thingOf 0 2 = 8, place 0 0 = 0");
        EDGES.test("t: the least of all", "tell t000; = 1, thingOf 0 0 = 0");
        EDGES.test("t: the greatest of all", "tell t599; = 1, thingOf 0 0 = 5, thingOf 0 1 = 9, "
            + "thingOf 0 2 = 9");
        EDGES.test("t: KIND 6 is out of range", "tell t600; = -2000, count 0 = 0");
        EDGES.test("t: KIND 9 is out of range", "tell t900; = -2000, count 0 = 0");
        EDGES.test("t: eight", "tell t000;t000;t000;t000;t000;t000;t000;t000; = 8, count 0 = 8");
        EDGES.test("t: no room for a ninth",
            "tell t000;t000;t000;t000;t000;t000;t000;t000;t000; = -2040, count 0 = 0");
        EDGES.test("t: no room, eight there are", "times 8 thing 0 0 0, tell t000; = -2000");
        EDGES.test("d a THING, a BLOW (2 digits)", "make 000 000, cuts 0, tell d110; = 1, "
            + "count 2 = 2, count 1 = 1");
        EDGES.test("d: BLOW 1", "make 400, tell d001; = 1, count 1 = 1");
        EDGES.test("d: BLOW 0 is out of range", "make 400, tell d000; = -2000, count 1 = 0");
        EDGES.test("d: BLOW 60", "make 400, tell d060; = 1, count 1 = 1");
        EDGES.test("d: BLOW 61 is out of range", "make 400, tell d061; = -2000, count 1 = 0");
        EDGES.test("d: BLOW 99 is out of range", "make 400, tell d099; = -2000");
        EDGES.test("d: the last THING", "make 400 400, tell d101; = 1");
        EDGES.test("d: no such THING", "make 400 400, tell d201; = -2000");
        EDGES.test("d: a BROKEN one", "make 000, drops 0 10, tell d001; = -2000, count 1 = 1");
        EDGES.test("d: what its BLOW breaks by passing", "make 400 000, tell d011; = 1, "
            + "count 2 = 2");
        EDGES.test("m a THING: BROKEN no more", "make 000, drops 0 10, tell m0; = 1, count 2 = 0");
        EDGES.test("m: one that is not BROKEN", "make 000, tell m0; = -2000");
        EDGES.test("m: no such THING", "make 000, drops 0 10, tell m1; = -2000, count 2 = 1");
        EDGES.test("c a LINK: CUT", "make 000 000, tell c0; = 1, count 3 = 1");
        EDGES.test("c: told again, not", "make 000 000, tell c0;c0; = 2, count 3 = 0");
        EDGES.test("c: told again in a later VALLEY, not", "make 000 000, tell c0; = 1, "
            + "tell c0; = 1, count 3 = 0");
        EDGES.test("c: the last LINK", "make 000 000 000, tell c1; = 1, count 3 = 2");
        EDGES.test("c: no such LINK", "make 000 000 000, tell c2; = -2000");
        EDGES.test("c: one THING has no LINK", "make 000, tell c0; = -2000");
        EDGES.test("x two PLACES: the THINGS in them change places", "make 000 000 000, "
            + "tell x02; = 1, place 0 0 = 2, place 2 0 = 0, thingOf 0 6 = 2, place 1 0 = 1");
        EDGES.test("x: one twice", "make 000 000, tell x11; = -2000");
        EDGES.test("x: no such first PLACE", "make 000 000, tell x20; = -2000");
        EDGES.test("x: no such other PLACE", "make 000 000, tell x02; = -2000");
    }

    /** FAULT kind 1 in each place of each STATEMENT. */
    private static void misfits() {
        EDGES.test("At least one STATEMENT: no letter", "tell = -1000");
        EDGES.test("At least one STATEMENT: a ; alone", "make 000, tell ; = -1000");
        EDGES.test("; behind each, not twice", "make 000 000, tell c0;; = -1003, count 3 = 0");
        String[] whole = {"t000;", "d001;", "m0;", "c0;", "x01;"};
        for (String statement : whole) {
            for (int place = 0; place < statement.length(); place++) {
                String head = statement.substring(0, place);
                String tail = statement.substring(place + 1);
                EDGES.test("the end, if something lacks: " + head, SIX + (place == 0 ? "tell"
                    : "tell " + head) + " = " + (-1000 - place));
                EDGES.test("the end, behind a STATEMENT: c0;" + head, SIX + "tell c0;" + head
                    + (place == 0 ? " = 1" : " = " + (-1003 - place)));
                for (int sign : new int[] {0, '/', ':', 's', 'T', ';' + 1, 127, 255}) {
                    EDGES.test("no VALLEY goes on with sign " + sign + " behind " + head, SIX
                        + (place == 0 ? "" : "letters " + head + ", ") + "feed " + sign
                        + (tail.isEmpty() ? "" : ", letters " + tail) + ", valley = "
                        + (-1000 - place));
                }
            }
            EDGES.test("a digit too many: " + statement, SIX + "tell "
                + statement.replace(";", "0;") + " = " + (-999 - statement.length()));
            EDGES.test("a digit too few: " + statement, SIX + "tell "
                + statement.substring(0, statement.length() - 2) + "; = "
                + (-998 - statement.length()));
        }
        for (char digit = '0'; digit <= '9'; digit++) {
            EDGES.test("a digit: " + digit, "make 000 000, tell t0" + digit + digit + "; = 1, "
                + "thingOf 2 1 = " + digit % '0' + ", thingOf 2 2 = " + digit % '0');
        }
        EDGES.test("the first letter: of two", "make 000 000, tell c0;q0;r = -1003");
        EDGES.test("kind 1 goes ahead of kind 2, also farther on", "make 000 000, "
            + "tell c9;t900;m0 = -1010");
        EDGES.test("kind 1 at letter 95", "make 000 000, times 31 letters c0;, letters c0q, "
            + "valley = -1095");
        EDGES.test("the end is 96", "make 000 000, times 30 letters c0;, letters x01;c0, "
            + "count 5 = 96, valley = -1096");
    }

    private static void mistakes() {
        EDGES.test("the first STATEMENT that is not as it must be", "make 000 000, "
            + "tell c0;c9;m0;t900; = -2003, count 3 = 0");
        EDGES.test("the last STATEMENT", "make 000 000, times 31 letters c0;, letters c1;, "
            + "valley = -2093, count 3 = 0");
        EDGES.test("behind all ahead of it: a THING that came", "tell t000;d001; = 2, count 1 = 1");
        EDGES.test("behind all ahead of it: a THING comes later", "tell d001;t000; = -2000");
        EDGES.test("behind all ahead of it: a LINK that came", "tell t000;t000;c0; = 3");
        EDGES.test("behind all ahead of it: a LINK comes later", "tell t000;c0;t000; = -2005, "
            + "count 0 = 0");
        EDGES.test("behind all ahead of it: a PLACE that came", "make 000, tell t000;x01; = 2, "
            + "place 0 0 = 1");
        EDGES.test("behind all ahead of it: a PLACE comes later", "make 000, "
            + "tell x01;t000; = -2000, count 0 = 1");
        EDGES.test("behind all ahead of it: BROKEN ahead", "tell t000;d010;m0; = 3, count 2 = 0");
        EDGES.test("behind all ahead of it: BROKEN later", "tell t000;m0;d010; = -2005");
        EDGES.test("behind all ahead of it: dropped twice", "tell t000;d010;d001; = -2010");
        EDGES.test("behind all ahead of it: mended between", "tell t000;d010;m0;d010; = 4, "
            + "count 2 = 1, count 1 = 2");
        EDGES.test("behind all ahead of it: mended twice", "make 000, drops 0 10, "
            + "tell m0;m0; = -2003, count 2 = 1");
        EDGES.test("behind all ahead of it: CUT, so nothing passes", "make 400 000, "
            + "tell c0;d060; = 2, count 2 = 0");
        EDGES.test("behind all ahead of it: changed", "make 400 000 000, tell x12;c0;d060; = 3, "
            + "count 2 = 0, place 1 0 = 2");
        EDGES.test("behind all ahead of it: no room left", "times 7 thing 0 0 0, "
            + "tell t000;t000; = -2005, count 0 = 7");
        EDGES.test("Without FAULT all of it comes", "tell t000;t410;d010;c0;x01; = 5, "
            + "count 0 = 2, count 1 = 1, count 2 = 1, count 3 = 1, place 0 0 = 1");
        EDGES.test("with one nothing", "make 000 000, tell t410;d110;c0;x01;m0; = -2017, "
            + "count 0 = 2, count 1 = 0, count 2 = 0, count 3 = 0, place 0 0 = 0");
        EDGES.test("with one of kind 1 nothing", "make 000 000, tell t410;d110;c0;x01;m = -1018, "
            + "count 0 = 2, count 1 = 0, count 2 = 0, count 3 = 0, place 0 0 = 0");
        EDGES.test("nothing is counted, kind 1", "tell t = -1001" + NOTHING_COUNTED);
        EDGES.test("nothing is counted, kind 2", SIX + "tell t900; = -2000, tell d901; = -2000, "
            + "tell d000; = -2000, tell d061; = -2000, tell m0; = -2000, tell c9; = -2000, "
            + "tell x00; = -2000" + NOTHING_COUNTED);
    }

    private static void figures() {
        EDGES.test("4: -9 is no answer, what 0 .. 6", SIX + "thingOf 5 0 = 5, thingOf 5 1 = 5, "
            + "thingOf 5 2 = 2, thingOf 5 3 = 0, thingOf 5 4 = 4, thingOf 5 5 = 6, "
            + "thingOf 5 6 = 5");
        EDGES.test("4: 1 BROKEN (3)", SIX + "drops 5 6 = 1, thingOf 5 3 = 1, mends 5, "
            + "thingOf 5 3 = 0");
        EDGES.test("4: BROKEN, the rest is as it was", SIX + "drops 5 6, thingOf 5 0 = 5, "
            + "thingOf 5 4 = 4, thingOf 5 5 = 6, thingOf 5 6 = 5, count 4 = 14");
        EDGES.test("4: -1", SIX + "thingOf 6 0 = -1, thingOf -1 0 = -1, thingOf 5 0 = 5");
        EDGES.test("4: -2", SIX + "thingOf 0 7 = -2, thingOf 0 -1 = -2, thingOf 0 6 = 0");
        EDGES.test("4: -1 ahead of -2", SIX + "thingOf 6 7 = -1, count 12 = 0");
        EDGES.test("4: its PLACE (6), of eight", "times 8 thing 0 0 0, changes 0 7, "
            + "thingOf 0 6 = 7, thingOf 7 6 = 0");
        EDGES.test("5: 1 if the LINK behind it is CUT", SIX + "cuts 2, place 2 1 = 1, "
            + "place 1 1 = 0, place 3 1 = 0");
        EDGES.test("5: -9 the last", SIX + "place 5 1 = -9, place 4 1 = 0, count 11 = 0");
        EDGES.test("5: -9 the last, of one", "make 000, place 0 1 = -9, place 0 0 = 0");
        EDGES.test("5: the last no more", "make 000, make 000, place 0 1 = 0, place 1 1 = -9");
        EDGES.test("5: the last LINK, CUT", SIX + "cuts 4, place 4 1 = 1, place 5 1 = -9");
        EDGES.test("5: -1", SIX + "place 6 0 = -1, place -1 0 = -1, place 5 0 = 5");
        EDGES.test("5: -2", SIX + "place 0 2 = -2, place 0 -1 = -2, place 5 2 = -2");
        EDGES.test("5: -1 ahead of -2", SIX + "place 6 2 = -1, count 12 = 0");
        EDGES.test("6: its number, with all places full", "times 7 thing 0 0 0, thing 5 9 9 = 7, "
            + "thing 5 9 9 = -6, thingOf 7 1 = 9");
        EDGES.test("6: -2", "thing -1 0 0 = -2, thing 6 0 0 = -2, count 0 = 0");
        EDGES.test("6: -4 either", "thing 0 -1 0 = -4, thing 0 0 -1 = -4, count 0 = 0");
        EDGES.test("6: -6 (9 either)", "thing 0 10 0 = -6, thing 0 0 10 = -6, count 0 = 0");
        EDGES.test("6: -2 ahead of -4 ahead of -6", "thing 6 -1 10 = -2, thing 0 10 -1 = -4, "
            + "thing 0 -1 10 = -4");
        EDGES.test("6: eight there are, -2 and -4 go ahead", "times 8 thing 0 0 0, "
            + "thing 6 0 0 = -2, thing 0 0 -1 = -4, thing 0 -1 0 = -4, count 0 = 8");
    }

    private static void changes() {
        EDGES.test("7: how many are BROKEN by it: none", SIX + "drops 0 8 = 0, count 2 = 0");
        EDGES.test("7: how many are BROKEN by it: two", SIX + "drops 4 20 = 2, count 2 = 40");
        EDGES.test("7: those BROKEN before do not count", SIX + "drops 5 6 = 1, drops 3 4 = 1, "
            + "count 2 = 40");
        EDGES.test("7: -1", SIX + "drops 6 5 = -1, drops -1 5 = -1, drops 5 5 = 0");
        EDGES.test("7: -4 1", SIX + "drops 0 0 = -4, drops 0 1 = 0");
        EDGES.test("7: -6 60", SIX + "drops 4 61 = -6, drops 4 60 = 2");
        EDGES.test("7: -3 it is BROKEN", SIX + "drops 0 10 = 1, drops 0 10 = -3, drops 0 1 = -3, "
            + "count 1 = 1, count 7 = 1");
        EDGES.test("7: -1, -4, -6 ahead of -3", SIX + "drops 0 10, drops 6 0 = -1, "
            + "drops 0 0 = -4, drops 0 61 = -6, drops 0 60 = -3");
        EDGES.test("7: mended it can be dropped again", SIX + "drops 0 10, mends 0 = 0, "
            + "drops 0 10 = 1");
        EDGES.test("8: how many are BROKEN still", SIX + "drops 4 20 = 2, mends 3 = 1, "
            + "mends 5 = 0, count 2 = 0");
        EDGES.test("8: -1", SIX + "drops 4 20, mends 6 = -1, mends -1 = -1, count 2 = 40");
        EDGES.test("8: -3 it is not BROKEN", SIX + "drops 4 20, mends 4 = -3, mends 3 = 1, "
            + "mends 3 = -3, count 7 = 2");
        EDGES.test("9: CUT, or not any more: 1, 0", SIX + "cuts 4 = 1, count 3 = 16, cuts 4 = 0, "
            + "count 3 = 0");
        EDGES.test("9: -1", SIX + "cuts 5 = -1, cuts -1 = -1, cuts 32 = -1, count 3 = 0");
        EDGES.test("9: -1 without LINKS", "cuts 0 = -1, cuts -1 = -1, make 000, cuts 0 = -1, "
            + "cuts -1 = -1");
        EDGES.test("10: that in the first then", SIX + "changes 0 5 = 5, changes 5 0 = 5, "
            + "place 0 0 = 0");
        EDGES.test("10: -1 either", SIX + "changes 6 0 = -1, changes 0 6 = -1, changes -1 0 = -1, "
            + "changes 0 -1 = -1, place 0 0 = 0");
        EDGES.test("10: -1 one twice", SIX + "changes 0 0 = -1, changes 5 5 = -1, count 11 = 2, "
            + "count 7 = 0");
    }

    private static void back() {
        EDGES.test("11: how many can still be", SIX + "drops 0 10, cuts 0, back = 1, back = 0");
        EDGES.test("11: -3 none", SIX + "back = -3, cuts 0, back = 0, back = -3, count 13 = 2");
        EDGES.test("TAKEN BACK: what drops() changed", SIX + "drops 4 20, back = 0, count 2 = 0, "
            + "count 1 = 0");
        EDGES.test("TAKEN BACK: what mends() changed", SIX + "drops 4 20, mends 3, back = 1, "
            + "count 2 = 40, count 1 = 1");
        EDGES.test("TAKEN BACK: what cuts() changed", SIX + "cuts 3, cuts 3, back = 1, "
            + "count 3 = 8, back = 0, count 3 = 0");
        EDGES.test("TAKEN BACK: what changes() changed", SIX + "changes 1 4, back = 0, "
            + "place 1 0 = 1, place 4 0 = 4, thingOf 1 6 = 1, thingOf 4 6 = 4");
        EDGES.test("each counts, also if all stays as it was", "make 400, drops 0 1 = 0, "
            + "drops 0 1 = 0, count 7 = 2, back = 1, count 1 = 1");
        EDGES.test("each that is not refused counts", SIX + "cuts 0, drops 0 0 = -4, "
            + "mends 0 = -3, cuts 9 = -1, changes 1 1 = -1, count 7 = 1");
        EDGES.test("the latest first", SIX + "cuts 0, cuts 1, cuts 2, back = 2, count 3 = 3, "
            + "back = 1, count 3 = 1, back = 0, count 3 = 0");
        EDGES.test("8 at most: eight", "make 400, times 8 drops 0 1, count 7 = 8, back = 7, "
            + "times 6 back, back = 0, back = -3, count 1 = 0");
        EDGES.test("8 at most: nine (older ones no more)", "make 400, times 9 drops 0 1, "
            + "count 7 = 8, back = 7, times 6 back, back = 0, back = -3, count 1 = 1");
        EDGES.test("8 at most: many, by turns", "make 400, times 20 drops 0 1, times 3 back, "
            + "count 7 = 5, count 1 = 17, times 2 drops 0 1, count 7 = 7, times 2 drops 0 1, "
            + "count 7 = 8, count 1 = 21, times 8 back, back = -3, count 1 = 13");
        EDGES.test("all TAKEN BACK, there is room again", "make 400, times 8 drops 0 1, "
            + "times 8 back, times 9 drops 0 1, count 7 = 8, times 8 back, count 1 = 1");
        EDGES.test("TAKEN BACK is not TAKEN BACK itself", SIX + "cuts 0, back = 0, back = -3, "
            + "count 3 = 0");
        EDGES.test("thing() leaves none", SIX + "cuts 0, thing 0 0 0 = 6, count 7 = 0, "
            + "back = -3, count 3 = 1");
        EDGES.test("thing() refused leaves them", SIX + "cuts 0, thing 6 0 0 = -2, "
            + "thing 0 -1 0 = -4, thing 0 10 0 = -6, count 7 = 1, back = 0, count 3 = 0");
        EDGES.test("thing() refused for room leaves them", "times 8 thing 0 0 0, cuts 0, "
            + "thing 0 0 0 = -6, count 7 = 1, back = 0");
        EDGES.test("a VALLEY without FAULT leaves none", SIX + "cuts 0, tell c1; = 1, "
            + "count 7 = 0, back = -3, count 3 = 3");
        EDGES.test("a VALLEY with a FAULT of kind 1 leaves them", SIX + "cuts 0, tell c1 = -1002, "
            + "count 7 = 1, back = 0");
        EDGES.test("a VALLEY with a FAULT of kind 2 leaves them", SIX + "cuts 0, tell c9; = -2000, "
            + "count 7 = 1, back = 0");
        EDGES.test("a VALLEY of no letters leaves them", SIX + "cuts 0, valley = -1000, "
            + "count 7 = 1, back = 0");
        EDGES.test("restore() leaves none", SIX + "image, cuts 0, restore = 0, count 7 = 0, "
            + "back = -3");
        EDGES.test("restore() refused leaves them", SIX + "cuts 0, restore = -3, count 7 = 1, "
            + "back = 0");
        EDGES.test("image() leaves them", SIX + "cuts 0, image, count 7 = 1, back = 0, "
            + "count 3 = 0");
        EDGES.test("what a VALLEY changed can not be TAKEN BACK", SIX + "tell d010;c0; = 2, "
            + "back = -3, count 2 = 1");
    }

    public static void main(String[] args) {
        newObject();
        feed();
        told();
        misfits();
        mistakes();
        figures();
        changes();
        back();
        EDGES.end();
    }
}
