/**
 * Each promise with numbers worked out by hand: ordinary inputs, the edges that the document
 * names, and wrong inputs. A method a promise, in their order.
 *
 * Most look at SIX, which six() makes: THING 0 figure 0 (LOSS 1, STANDS 10) on farm 3; 1 DISH 2
 * (1, 8) on 7; 2 JUG 1 (4, 16) on 1; 3 SAUCER 2 (1, 4) on 9; 4 BELL 4 (3, 99) on 5; 5 CUP 5
 * (4, 6) on 2.
 */
public final class PromisesTest {
    private static final long LONG_REFUSAL = 4000000000000000000L;
    private static final int LEAST_INT = Integer.MIN_VALUE;
    private static final int GREATEST_INT = Integer.MAX_VALUE;

    private static int wrong = 0;
    private static int checks = 0;
    private static int promise = 0;

    private static void due(String call, long got, long want) {
        checks++;
        if (got != want) {
            wrong++;
            System.out.println("promise " + promise + ": " + call + " answered " + got
                + ", due is " + want);
        }
    }

    private static RivetedSisters six() {
        RivetedSisters x = new RivetedSisters();
        x.thing(0, 0, 3);
        x.thing(1, 2, 7);
        x.thing(2, 1, 1);
        x.thing(3, 2, 9);
        x.thing(4, 4, 5);
        x.thing(5, 5, 2);
        return x;
    }

    /** SIX with 3 and 5 BROKEN, DAY 1. */
    private static RivetedSisters four() {
        RivetedSisters x = six();
        x.drops(4, 20);
        return x;
    }

    /** THINGS of one KIND each, figures and farms 0. */
    private static RivetedSisters of(int... kinds) {
        RivetedSisters x = new RivetedSisters();
        for (int kind : kinds) {
            x.thing(kind, 0, 0);
        }
        return x;
    }

    private static int tell(RivetedSisters x, String text) {
        for (char letter : text.toCharArray()) {
            x.feed(letter);
        }
        return x.valley();
    }

    private static void tellRow(RivetedSisters x, int... numbers) {
        for (int number : numbers) {
            x.row(number);
        }
    }

    private static void newObject() {
        promise = 1;
        RivetedSisters x = new RivetedSisters();
        for (int what = 0; what <= 7; what++) {
            due("count(" + what + ")", x.count(what), 0);
        }
        for (int what = 11; what <= 16; what++) {
            due("count(" + what + ")", x.count(what), 0);
        }
        due("thingOf(0, 0)", x.thingOf(0, 0), -1);
        due("place(0, 0)", x.place(0, 0), -1);
        due("restore()", x.restore(), -3);
    }

    private static void feed() {
        promise = 2;
        RivetedSisters x = new RivetedSisters();
        due("feed(-1)", x.feed(-1), -4);
        due("feed(256)", x.feed(256), -6);
        due("feed(least)", x.feed(LEAST_INT), -4);
        due("feed(greatest)", x.feed(GREATEST_INT), -6);
        due("feed(0)", x.feed(0), 1);
        due("feed(255)", x.feed(255), 2);
        for (int i = 3; i <= 96; i++) {
            due("feed " + i, x.feed('t'), i);
        }
        due("feed, 97th", x.feed('t'), -6);
        due("feed(-1), 97th", x.feed(-1), -4);
        due("count(5)", x.count(5), 96);
        due("count(14)", x.count(14), 3);
        due("count(16)", x.count(16), 3);
        due("valley()", x.valley(), -1000);
        due("count(5)", x.count(5), 0);
        due("feed('t')", x.feed('t'), 1);
    }

    private static void valley() {
        promise = 3;
        RivetedSisters x = new RivetedSisters();
        due("all STATEMENTS", tell(x, "t003;t127;x01;c0;d030;m0;"), 6);
        due("place(0, 0)", x.place(0, 0), 1);
        due("place(0, 1)", x.place(0, 1), 1);
        due("thingOf(1, 0)", x.thingOf(1, 0), 1);
        due("thingOf(1, 1)", x.thingOf(1, 1), 2);
        due("thingOf(1, 2)", x.thingOf(1, 2), 7);
        due("thingOf(0, 3)", x.thingOf(0, 3), 0);
        due("count(1)", x.count(1), 1);
        due("count(5)", x.count(5), 0);
        due("a LINK told again", tell(x, "c0;"), 1);
        due("count(3)", x.count(3), 0);
        due("what is BROKEN by it", tell(x, "d160;"), 1);
        due("count(2)", x.count(2), 2);
        due("count(1)", x.count(1), 2);
        valleyMisfits();
        valleyMistakes();
    }

    private static void valleyMisfits() {
        RivetedSisters x = six();
        due("no letter", tell(x, ""), -1000);
        due("no STATEMENT", tell(x, ";"), -1000);
        due("no such letter", tell(x, "c0;q0;"), -1003);
        due("a capital", tell(x, "T000;"), -1000);
        due("no digit", tell(x, "t0x0;"), -1002);
        due("a sign below 0", tell(x, "m/;"), -1001);
        due("a sign above 9", tell(x, "m:;"), -1001);
        due("no ;", tell(x, "c0x01;"), -1002);
        due("a digit too many", tell(x, "d0011;"), -1004);
        due("the end for a digit", tell(x, "c0;d01"), -1006);
        due("the end for a ;", tell(x, "c0;x01"), -1006);
        due("the end behind a letter", tell(x, "m"), -1001);
        due("; twice", tell(x, "c0;;"), -1003);
        due("kind 1 is ahead of kind 2", tell(x, "c9;q"), -1003);
        due("sign 255", tell(x, "c0;" + (char) 255), -1003);
        due("count(3)", x.count(3), 0);
        for (int what = 11; what <= 16; what++) {
            due("count(" + what + ")", x.count(what), 0);
        }
        StringBuilder full = new StringBuilder();
        for (int i = 0; i < 16; i++) {
            full.append("x01;");
        }
        for (int i = 0; i < 10; i++) {
            full.append("c0;");
        }
        due("94 letters", tell(x, full.toString()), 26);
        due("96 letters", tell(x, full + "c0"), -1096);
        due("count(5)", x.count(5), 0);
    }

    private static void valleyMistakes() {
        RivetedSisters x = six();
        x.cuts(0);
        due("no such KIND", tell(x, "c1;t600;"), -2003);
        due("no such THING", tell(x, "d601;"), -2000);
        due("BLOW 0", tell(x, "c1;x01;d000;"), -2007);
        due("BLOW 61", tell(x, "d061;"), -2000);
        due("BROKEN by an earlier one", tell(x, "d010;d001;"), -2005);
        due("not BROKEN", tell(x, "m0;"), -2000);
        due("mended twice", tell(x, "d010;m0;m0;"), -2008);
        due("no such THING to mend", tell(x, "m6;"), -2000);
        due("no such LINK", tell(x, "c5;"), -2000);
        due("one PLACE twice", tell(x, "x11;"), -2000);
        due("no such PLACE", tell(x, "x60;"), -2000);
        due("no other PLACE", tell(x, "x06;"), -2000);
        due("the first of two", tell(x, "c0;c9;m0;"), -2003);
        due("no room", tell(x, "t000;t000;c6;t000;"), -2013);
        due("count(0)", x.count(0), 6);
        due("count(1)", x.count(1), 0);
        due("count(2)", x.count(2), 0);
        due("count(3)", x.count(3), 1);
        due("place(0, 0)", x.place(0, 0), 0);
        due("count(7)", x.count(7), 1);
        for (int what = 11; what <= 16; what++) {
            due("count(" + what + ")", x.count(what), 0);
        }
        due("a THING of the same text", tell(x, "t000;c5;d660;m6;x60;"), 5);
        due("count(0)", x.count(0), 7);
        due("count(3)", x.count(3), 33);
        due("place(0, 0)", x.place(0, 0), 6);
    }

    private static void thingOf() {
        promise = 4;
        RivetedSisters x = six();
        int[][] rows = {{0, 0, 3, 0, 1, 10, 0}, {1, 2, 7, 0, 1, 8, 1}, {2, 1, 1, 0, 4, 16, 2},
            {3, 2, 9, 0, 1, 4, 3}, {4, 4, 5, 0, 3, 99, 4}, {5, 5, 2, 0, 4, 6, 5}};
        for (int thing = 0; thing < 6; thing++) {
            for (int what = 0; what < 7; what++) {
                due("thingOf(" + thing + ", " + what + ")", x.thingOf(thing, what),
                    rows[thing][what]);
            }
        }
        due("thingOf(6, 0)", x.thingOf(6, 0), -1);
        due("thingOf(-1, 9)", x.thingOf(-1, 9), -1);
        due("thingOf(0, 7)", x.thingOf(0, 7), -2);
        due("thingOf(0, -1)", x.thingOf(0, -1), -2);
        x.changes(0, 4);
        due("thingOf(0, 6)", x.thingOf(0, 6), 4);
        due("thingOf(4, 6)", x.thingOf(4, 6), 0);
        x.drops(0, 60);
        due("thingOf(0, 3)", x.thingOf(0, 3), 1);
        figures();
    }

    /** LOSS and STANDS of all KINDS with figures 0 and 9. */
    private static void figures() {
        int[][] nought = {{1, 10}, {0, 6}, {3, 15}, {1, 3}, {1, 99}, {1, 6}};
        int[][] nine = {{10, 19}, {5, 15}, {12, 24}, {1, 7}, {6, 99}, {6, 6}};
        for (int kind = 0; kind < 6; kind++) {
            RivetedSisters x = new RivetedSisters();
            x.thing(kind, 0, 0);
            x.thing(kind, 9, 9);
            due("LOSS, figure 0, " + kind, x.thingOf(0, 4), nought[kind][0]);
            due("STANDS, figure 0, " + kind, x.thingOf(0, 5), nought[kind][1]);
            due("LOSS, figure 9, " + kind, x.thingOf(1, 4), nine[kind][0]);
            due("STANDS, figure 9, " + kind, x.thingOf(1, 5), nine[kind][1]);
        }
    }

    private static void place() {
        promise = 5;
        RivetedSisters x = six();
        x.changes(1, 3);
        x.cuts(1);
        due("place(1, 0)", x.place(1, 0), 3);
        due("place(3, 0)", x.place(3, 0), 1);
        due("place(1, 1)", x.place(1, 1), 1);
        due("place(0, 1)", x.place(0, 1), 0);
        due("place(4, 1)", x.place(4, 1), 0);
        due("place(5, 1)", x.place(5, 1), -9);
        due("place(6, 2)", x.place(6, 2), -1);
        due("place(-1, 0)", x.place(-1, 0), -1);
        due("place(0, 2)", x.place(0, 2), -2);
        due("place(5, -1)", x.place(5, -1), -2);
        x.thing(0, 0, 0);
        due("place(5, 1), one more", x.place(5, 1), 0);
        due("place(6, 0)", x.place(6, 0), 6);
    }

    private static void thing() {
        promise = 6;
        RivetedSisters x = new RivetedSisters();
        due("thing(-1, -1, -1)", x.thing(-1, -1, -1), -2);
        due("thing(6, 0, 0)", x.thing(6, 0, 0), -2);
        due("thing(0, -1, 10)", x.thing(0, -1, 10), -4);
        due("thing(0, 10, -1)", x.thing(0, 10, -1), -4);
        due("thing(0, 10, 0)", x.thing(0, 10, 0), -6);
        due("thing(0, 0, 10)", x.thing(0, 0, 10), -6);
        for (int i = 0; i < 8; i++) {
            due("thing " + i, x.thing(i % 6, 9, 9), i);
        }
        due("a ninth", x.thing(0, 0, 0), -6);
        due("a ninth of no KIND", x.thing(6, 0, 0), -2);
        due("a ninth below", x.thing(0, 0, -1), -4);
        due("count(0)", x.count(0), 8);
        due("place(7, 0)", x.place(7, 0), 7);
    }

    private static void drops() {
        promise = 7;
        RivetedSisters x = six();
        due("drops(4, 20)", x.drops(4, 20), 2);
        due("count(2)", x.count(2), 40);
        due("count(1)", x.count(1), 1);
        due("drops(3, 1)", x.drops(3, 1), -3);
        due("drops(3, 61)", x.drops(3, 61), -6);
        due("drops(3, 0)", x.drops(3, 0), -4);
        due("drops(6, 0)", x.drops(6, 0), -1);
        due("drops(-1, 1)", x.drops(-1, 1), -1);
        due("count(1)", x.count(1), 1);
        due("drops(4, 60)", x.drops(4, 60), 0);
        due("count(1)", x.count(1), 2);
        due("drops(0, 9)", x.drops(0, 9), 1);
        due("count(2)", x.count(2), 42);
        due("drops(0, 10)", x.drops(0, 10), 1);
        due("count(2)", x.count(2), 43);
    }

    /** No object comes so far in 512 calls; the number is the document's all the same. */
    private static void lastDay() {
        RivetedSisters x = of(4);
        for (int day = 1; day <= 999; day++) {
            x.drops(0, 1);
        }
        due("count(1)", x.count(1), 999);
        due("drops(0, 1) on the last DAY", x.drops(0, 1), -6);
        due("drops(0, 0) on the last DAY", x.drops(0, 0), -4);
        due("a VALLEY on the last DAY", tell(x, "t000;d001;"), -2005);
    }

    private static void mends() {
        promise = 8;
        RivetedSisters x = four();
        due("mends(4)", x.mends(4), -3);
        due("mends(6)", x.mends(6), -1);
        due("mends(-1)", x.mends(-1), -1);
        due("mends(5)", x.mends(5), 1);
        due("mends(5)", x.mends(5), -3);
        due("mends(3)", x.mends(3), 0);
        due("count(2)", x.count(2), 0);
        due("count(1)", x.count(1), 1);
        due("drops(5, 6)", x.drops(5, 6), 1);
    }

    private static void cuts() {
        promise = 9;
        due("no THING", new RivetedSisters().cuts(0), -1);
        due("one THING", of(0).cuts(0), -1);
        RivetedSisters x = six();
        due("cuts(4)", x.cuts(4), 1);
        due("cuts(0)", x.cuts(0), 1);
        due("count(3)", x.count(3), 17);
        due("cuts(4)", x.cuts(4), 0);
        due("cuts(5)", x.cuts(5), -1);
        due("cuts(-1)", x.cuts(-1), -1);
        due("cuts(32)", x.cuts(32), -1);
        due("count(3)", x.count(3), 1);
        due("blow(0, 8, 0)", x.blow(0, 8, 0), 1);
        due("blow(1, 7, 0)", x.blow(1, 7, 0), 2 + 4 + 8 + 16);
    }

    private static void changes() {
        promise = 10;
        RivetedSisters x = six();
        x.cuts(0);
        due("changes(0, 5)", x.changes(0, 5), 5);
        due("place(0, 0)", x.place(0, 0), 5);
        due("place(5, 0)", x.place(5, 0), 0);
        due("place(0, 1)", x.place(0, 1), 1);
        due("thingOf(5, 6)", x.thingOf(5, 6), 0);
        due("changes(5, 1)", x.changes(5, 1), 1);
        due("place(1, 0)", x.place(1, 0), 0);
        due("changes(2, 2)", x.changes(2, 2), -1);
        due("changes(0, 6)", x.changes(0, 6), -1);
        due("changes(-1, 0)", x.changes(-1, 0), -1);
        due("changes(7, 7)", x.changes(7, 7), -1);
        due("blow(0, 8, 0)", x.blow(0, 8, 0), 1 + 4 + 8 + 16);
    }

    private static void back() {
        promise = 11;
        RivetedSisters x = six();
        due("back()", x.back(), -3);
        x.drops(4, 20);
        x.mends(3);
        x.cuts(2);
        x.changes(0, 1);
        x.changes(3, 3);
        x.drops(5, 1);
        due("count(7)", x.count(7), 4);
        due("back()", x.back(), 3);
        due("place(0, 0)", x.place(0, 0), 0);
        due("thingOf(1, 6)", x.thingOf(1, 6), 1);
        due("count(3)", x.count(3), 4);
        due("back()", x.back(), 2);
        due("count(3)", x.count(3), 0);
        due("count(2)", x.count(2), 32);
        due("back()", x.back(), 1);
        due("count(2)", x.count(2), 40);
        due("count(1)", x.count(1), 1);
        due("back()", x.back(), 0);
        due("count(2)", x.count(2), 0);
        due("count(1)", x.count(1), 0);
        due("back()", x.back(), -3);
        for (int i = 0; i < 11; i++) {
            x.drops(4, 1);
        }
        due("count(7)", x.count(7), 8);
        for (int i = 7; i >= 0; i--) {
            due("back()", x.back(), i);
        }
        due("back()", x.back(), -3);
        due("count(1)", x.count(1), 3);
        due("count(13)", x.count(13), 4);
        noBack();
    }

    /** What leaves nothing that can be TAKEN BACK, and what does not. */
    private static void noBack() {
        RivetedSisters x = six();
        x.cuts(0);
        x.thing(6, 0, 0);
        tell(x, "m0;");
        x.restore();
        x.image();
        due("refused, a FAULT, an image", x.count(7), 1);
        x.thing(0, 0, 0);
        due("behind thing()", x.back(), -3);
        x.cuts(1);
        tell(x, "c2;");
        due("behind a VALLEY", x.back(), -3);
        x.cuts(3);
        x.restore();
        due("behind restore()", x.back(), -3);
        due("count(3)", x.count(3), 1);
    }

    private static void gets() {
        promise = 12;
        RivetedSisters x = six();
        due("gets(0, 8, 0, 0)", x.gets(0, 8, 0, 0), 8);
        due("gets(0, 8, 3, 0)", x.gets(0, 8, 3, 0), 2);
        due("gets(0, 8, 3, 1)", x.gets(0, 8, 3, 1), 4);
        due("gets(0, 8, 5, 0)", x.gets(0, 8, 5, 0), 0);
        due("gets(0, 9, 1, 0)", x.gets(0, 9, 1, 0), 8);
        due("gets(0, 9, 2, 0)", x.gets(0, 9, 2, 0), 0);
        int[] jumps = {4, 5, 3, 10, 0, 5};
        for (int thing = 0; thing < 6; thing++) {
            due("gets(same, 9, same, 1) " + thing, x.gets(thing, 9, thing, 1), jumps[thing]);
        }
        due("who gets none does not JUMP", x.gets(0, 8, 5, 1), 0);
        due("gets(6, 0, 0, 2)", x.gets(6, 0, 0, 2), -1);
        due("gets(0, 0, 6, 2)", x.gets(0, 0, 6, 2), -1);
        due("gets(0, 0, 0, 2)", x.gets(0, 0, 0, 2), -4);
        due("gets(0, 61, 0, 2)", x.gets(0, 61, 0, 2), -6);
        due("gets(0, 60, 0, 2)", x.gets(0, 60, 0, 2), -2);
        due("gets(0, 1, 0, -1)", x.gets(0, 1, 0, -1), -2);
        x.drops(3, 60);
        due("a BROKEN one", x.gets(2, 9, 3, 0), 0);
        due("beyond a BROKEN one", x.gets(2, 9, 4, 0), 0);
        due("at a BROKEN one", x.gets(3, 9, 3, 0), 0);
        due("count(1)", x.count(1), 1);
    }

    private static void blow() {
        promise = 13;
        RivetedSisters x = six();
        int[][] due = {{0, 9, 3, 2, 2, 9, 1}, {0, 8, 31, 0, 5, 14, 4}, {2, 9, 15, 8, 4, 14, 0},
            {2, 6, 31, 0, 5, 2 + 2 + 4 + 0 + 0, 0}, {5, 60, 32, 32, 1, 31, 5}};
        for (int[] row : due) {
            for (int what = 0; what < 5; what++) {
                due("blow(" + row[0] + ", " + row[1] + ", " + what + ")",
                    x.blow(row[0], row[1], what), row[what + 2]);
            }
        }
        due("blow(6, 0, 5)", x.blow(6, 0, 5), -1);
        due("blow(0, 0, 5)", x.blow(0, 0, 5), -4);
        due("blow(0, 61, 5)", x.blow(0, 61, 5), -6);
        due("blow(0, 1, 5)", x.blow(0, 1, 5), -2);
        due("blow(0, 1, -1)", x.blow(0, 1, -1), -2);
        due("count(2)", x.count(2), 0);
        x.drops(0, 60);
        for (int what = 0; what < 4; what++) {
            due("blow(0, 60, " + what + ")", x.blow(0, 60, what), 0);
        }
        due("blow(0, 60, 4)", x.blow(0, 60, 4), -9);
        due("blow(1, 5, 0)", x.blow(1, 5, 0), 2 + 4);
    }

    private static void reaches() {
        promise = 14;
        RivetedSisters x = six();
        due("reaches(0, 4)", x.reaches(0, 4), 8);
        due("reaches(0, 5)", x.reaches(0, 5), -9);
        due("reaches(5, 4)", x.reaches(5, 4), 5);
        due("reaches(5, 3)", x.reaches(5, 3), -9);
        due("reaches(0, 0)", x.reaches(0, 0), 1);
        due("reaches(6, 0)", x.reaches(6, 0), -1);
        due("reaches(0, -1)", x.reaches(0, -1), -1);
        x.cuts(0);
        due("reaches(0, 1)", x.reaches(0, 1), -9);
        x.drops(0, 60);
        due("reaches(0, 0), BROKEN", x.reaches(0, 0), -9);
    }

    private static void breaks() {
        promise = 15;
        RivetedSisters x = six();
        due("breaks(0, 0)", x.breaks(0, 0), 10);
        due("breaks(0, 1)", x.breaks(0, 1), 9);
        due("breaks(0, 3)", x.breaks(0, 3), -9);
        due("breaks(4, 3)", x.breaks(4, 3), 7);
        due("breaks(4, 5)", x.breaks(4, 5), 9);
        due("breaks(4, 4)", x.breaks(4, 4), -9);
        due("breaks(6, 0)", x.breaks(6, 0), -1);
        due("breaks(0, 6)", x.breaks(0, 6), -1);
        x.drops(3, 60);
        due("breaks(4, 3), BROKEN", x.breaks(4, 3), -9);
        RivetedSisters y = bellsAndJug();
        due("by the greatest BLOW", y.breaks(0, 6), 60);
        due("by the greatest BLOW, back", y.breaks(1, 6), 54);
    }

    /** Six BELLS of LOSS 6 and a JUG that STANDS 24 behind them. */
    private static RivetedSisters bellsAndJug() {
        RivetedSisters x = new RivetedSisters();
        for (int bell = 0; bell < 6; bell++) {
            x.thing(4, 9, 0);
        }
        x.thing(2, 9, 0);
        return x;
    }

    private static void harm() {
        promise = 16;
        RivetedSisters x = six();
        int[] who = {10, 9, 216, 208, -9, 506};
        for (int thing = 0; thing < 6; thing++) {
            due("harm(" + thing + ", 0)", x.harm(thing, 0), who[thing]);
            due("harm(" + thing + ", 1)", x.harm(thing, 1), who[thing] < 0 ? -9 : 0);
        }
        due("harm(6, 2)", x.harm(6, 2), -1);
        due("harm(0, 2)", x.harm(0, 2), -2);
        due("harm(0, -1)", x.harm(0, -1), -2);
        RivetedSisters y = new RivetedSisters();
        y.thing(3, 0, 0);
        y.thing(4, 9, 0);
        y.thing(5, 9, 0);
        due("harm(0, 0) of three", y.harm(0, 0), 3);
        due("harm(2, 0) of three", y.harm(2, 0), 206);
        RivetedSisters z = of(5, 4, 3);
        z.drops(1, 60);
        due("harm(0, 0), BROKEN", z.harm(0, 0), -9);
        due("harm(0, 1), BROKEN", z.harm(0, 1), -9);
        fewestHarmed();
        due("by the greatest BLOW", bellsAndJug().harm(6, 0), 60);
    }

    /** A BLOW 4 at the BELL breaks the SAUCERS on both sides of it, one at a SAUCER that one. */
    private static void fewestHarmed() {
        RivetedSisters x = of(4, 3, 3);
        x.changes(0, 1);
        due("harm(1, 0)", x.harm(1, 0), 103);
        due("harm(1, 1)", x.harm(1, 1), 0);
        x.cuts(1);
        due("harm(1, 0), CUT", x.harm(1, 0), 4);
    }

    private static void tap() {
        promise = 17;
        RivetedSisters x = six();
        due("tap(0)", x.tap(0), 102);
        due("tap(4)", x.tap(4), 505);
        due("tap(5)", x.tap(5), 404);
        due("tap(6)", x.tap(6), -1);
        due("tap(-1)", x.tap(-1), -1);
        due("one alone", of(0).tap(0), -9);
        x.cuts(4);
        due("tap(5), CUT", x.tap(5), -9);
        x.cuts(4);
        x.drops(5, 60);
        due("tap(4), 5 BROKEN", x.tap(4), 302);
        due("tap(5), BROKEN", x.tap(5), -9);
    }

    private static void who() {
        promise = 18;
        RivetedSisters x = six();
        due("all", x.who(0), 360);
        due("all, the least", x.who(1), 1);
        due("all, by whom", x.who(2), 63);
        tellRow(x, 4, 4);
        due("who(0)", x.who(0), 1);
        due("who(1)", x.who(1), 8);
        due("who(2)", x.who(2), 1);
        due("it stays", x.count(6), 2);
        x.row(99);
        due("none", x.who(0), 0);
        due("none, the least", x.who(1), -9);
        due("none, by whom", x.who(2), 0);
        due("who(3)", x.who(3), -2);
        due("who(-1)", x.who(-1), -2);
        x.clear();
        tellRow(x, 0, 0, 0, 0, 0, 0);
        due("nobody JUMPS", x.who(1), 1);
        due("nobody JUMPS, by whom", x.who(2), 1 + 4 + 16);
        x.row(0);
        due("more numbers than THINGS", x.who(0), -3);
        due("who(3)", x.who(3), -2);
        x.clear();
        x.drops(0, 60);
        due("not the BROKEN", x.who(0), 300);
        due("not the BROKEN, the least", x.who(1), 101);
    }

    private static void whatKind() {
        promise = 19;
        RivetedSisters x = six();
        tellRow(x, 4, 4);
        due("whatKind(0, 8, 1, 0)", x.whatKind(0, 8, 1, 0), 2 + 32);
        due("whatKind(0, 8, 1, 1)", x.whatKind(0, 8, 1, 1), 1023);
        due("whatKind(0, 8, 0, 0)", x.whatKind(0, 8, 0, 0), 1);
        due("whatKind(0, 8, 0, 1)", x.whatKind(0, 8, 0, 1), 3);
        due("whatKind(1, 8, 0, 0)", x.whatKind(1, 8, 0, 0), 0);
        due("it stays", x.count(6), 2);
        due("as all was", x.thingOf(1, 0), 1);
        due("whatKind(6, 0, 0, 2)", x.whatKind(6, 0, 0, 2), -1);
        due("whatKind(0, 0, 6, 2)", x.whatKind(0, 0, 6, 2), -1);
        due("whatKind(0, 0, 0, 2)", x.whatKind(0, 0, 0, 2), -4);
        due("whatKind(0, 61, 0, 2)", x.whatKind(0, 61, 0, 2), -6);
        tellRow(x, 0, 0, 0, 0, 0);
        due("whatKind(0, 1, 0, 2)", x.whatKind(0, 1, 0, 2), -2);
        due("whatKind(0, 1, 0, -1)", x.whatKind(0, 1, 0, -1), -2);
        due("whatKind(0, 1, 0, 0)", x.whatKind(0, 1, 0, 0), -3);
        x.clear();
        due("no ROW", x.whatKind(0, 1, 0, 0), 63);
        x.drops(3, 60);
        tellRow(x, 0, 0, 0);
        due("at a BROKEN one", x.whatKind(3, 9, 1, 1), 1023);
    }

    private static void worst() {
        promise = 20;
        RivetedSisters x = six();
        due("worst(9, 0)", x.worst(9, 0), 4);
        due("worst(9, 1)", x.worst(9, 1), 2);
        due("worst(4, 0)", x.worst(4, 0), 3);
        due("worst(10, 1)", x.worst(10, 1), 2);
        due("worst(3, 0)", x.worst(3, 0), -9);
        due("worst(3, 1)", x.worst(3, 1), 0);
        due("worst(0, 2)", x.worst(0, 2), -4);
        due("worst(61, 2)", x.worst(61, 2), -6);
        due("worst(1, 2)", x.worst(1, 2), -2);
        due("worst(1, -1)", x.worst(1, -1), -2);
        due("of several the least", of(0, 0, 0).worst(10, 0), 0);
    }

    private static void bestCut() {
        promise = 21;
        RivetedSisters x = six();
        due("bestCut(9, 0)", x.bestCut(9, 0), 3);
        due("bestCut(9, 1)", x.bestCut(9, 1), 1);
        due("bestCut(3, 0)", x.bestCut(3, 0), 0);
        due("bestCut(3, 1)", x.bestCut(3, 1), 0);
        due("as all was", x.count(3), 0);
        x.cuts(3);
        due("bestCut(9, 0), 3 CUT", x.bestCut(9, 0), 0);
        x.cuts(0);
        due("bestCut(9, 0), 0 CUT", x.bestCut(9, 0), 1);
        due("bestCut(0, 2)", x.bestCut(0, 2), -4);
        due("bestCut(61, 2)", x.bestCut(61, 2), -6);
        due("bestCut(1, 2)", x.bestCut(1, 2), -2);
        due("bestCut(1, -1)", x.bestCut(1, -1), -2);
        due("no LINK", of(0).bestCut(1, 0), -9);
        due("no LINK, that", of(0).bestCut(1, 1), -9);
        RivetedSisters y = of(0, 0);
        y.cuts(0);
        due("all CUT", y.bestCut(60, 0), -9);
        due("all CUT, that", y.bestCut(60, 1), -9);
    }

    private static void order() {
        promise = 22;
        RivetedSisters x = new RivetedSisters();
        due("no THINGS", x.order(1, -1), 0);
        due("no PLACE", x.order(1, 0), -9);
        x.thing(3, 2, 0);
        x.thing(4, 4, 0);
        x.thing(5, 5, 0);
        x.cuts(0);
        x.changes(0, 2);
        due("order(9, -1)", x.order(9, -1), 1);
        due("order(9, 0)", x.order(9, 0), 0);
        due("order(9, 1)", x.order(9, 1), 2);
        due("order(9, 2)", x.order(9, 2), 1);
        due("order(9, 3)", x.order(9, 3), -9);
        due("order(9, greatest)", x.order(9, GREATEST_INT), -9);
        due("order(3, -1)", x.order(3, -1), 0);
        due("order(3, 1)", x.order(3, 1), 1);
        due("as all was", x.place(0, 0), 2);
        due("as it was CUT", x.count(3), 1);
        due("order(0, 0)", x.order(0, 0), -4);
        due("order(61, -2)", x.order(61, -2), -4);
        due("order(61, 0)", x.order(61, 0), -6);
        for (int i = 3; i < 6; i++) {
            x.thing(4, 0, 0);
        }
        due("six", x.order(60, -1), 1);
        x.thing(4, 0, 0);
        due("seven", x.order(60, -1), -3);
        due("seven, above", x.order(61, -1), -6);
    }

    private static void walk() {
        promise = 23;
        RivetedSisters x = new RivetedSisters();
        due("no THINGS", x.walk(-2), 0);
        due("no THINGS, SHORTEST", x.walk(-1), 0);
        due("no PLACE", x.walk(0), -9);
        x = six();
        due("walk(-2)", x.walk(-2), 4 + 6 + 8 + 4 + 3);
        due("walk(-1)", x.walk(-1), 8);
        int[] up = {2, 5, 0, 4, 1, 3};
        for (int place = 0; place < 6; place++) {
            due("walk(" + place + ")", x.walk(place), up[place]);
        }
        due("walk(6)", x.walk(6), -9);
        due("walk(greatest)", x.walk(GREATEST_INT), -9);
        due("walk(-3)", x.walk(-3), -4);
        due("as all was", x.place(0, 0), 0);
        x.changes(0, 3);
        due("walk(-2), changed", x.walk(-2), 2 + 6 + 2 + 2 + 3);
        due("walk(0), changed", x.walk(0), 2);
        RivetedSisters y = new RivetedSisters();
        int[] farms = {9, 2, 5, 2, 9};
        for (int farm : farms) {
            y.thing(0, 0, farm);
        }
        int[] down = {0, 4, 2, 1, 3};
        for (int place = 0; place < 5; place++) {
            due("down, walk(" + place + ")", y.walk(place), down[place]);
        }
        due("one FARM", of(0, 1, 2).walk(1), 1);
        due("one FARM, SHORTEST", of(0, 1, 2).walk(-1), 0);
    }

    private static void woman() {
        promise = 24;
        RivetedSisters x = six();
        due("woman(9, 0)", x.woman(9, 0), 1);
        due("woman(9, 1)", x.woman(9, 1), 4);
        due("woman(3, 0)", x.woman(3, 0), 0);
        due("woman(3, 1)", x.woman(3, 1), 0);
        due("as all was", x.count(3), 0);
        due("woman(0, 2)", x.woman(0, 2), -4);
        due("woman(61, 2)", x.woman(61, 2), -6);
        due("woman(1, 2)", x.woman(1, 2), -2);
        due("woman(1, -1)", x.woman(1, -1), -2);
        x.cuts(3);
        due("woman(9, 0), 3 CUT", x.woman(9, 0), 0);
        x.drops(0, 60);
        due("not the BROKEN", x.woman(9, 1), 1);
        RivetedSisters y = of(0);
        due("one alone", y.woman(60, 0), 0);
        due("one alone, whom", y.woman(60, 1), 0);
        y.drops(0, 60);
        due("none", y.woman(60, 0), -9);
        due("none, whom", y.woman(60, 1), -9);
    }

    private static void lasts() {
        promise = 25;
        RivetedSisters x = six();
        due("lasts(9)", x.lasts(9), 1);
        due("lasts(7)", x.lasts(7), 4);
        due("lasts(3)", x.lasts(3), -9);
        due("lasts(0)", x.lasts(0), -4);
        due("lasts(61)", x.lasts(61), -6);
        due("as all was", x.count(2) + x.count(1), 0);
        x.drops(0, 10);
        due("lasts(7), 0 BROKEN", x.lasts(7), 3);
        due("no THINGS", new RivetedSisters().lasts(60), -9);
    }

    private static void left() {
        promise = 26;
        RivetedSisters x = six();
        int[] due = {6, 6, 6, 6, 5, 5, 4, 4, 4, 4, 4};
        for (int n = 0; n < due.length; n++) {
            due("left(7, " + n + ")", x.left(7, n), due[n]);
        }
        due("left(60, 5)", x.left(60, 5), 1);
        due("left(60, 4)", x.left(60, 4), 2);
        due("left(60, 60)", x.left(60, 60), 1);
        due("left(0, -1)", x.left(0, -1), -4);
        due("left(61, -1)", x.left(61, -1), -4);
        due("left(0, 61)", x.left(0, 61), -4);
        due("left(1, 61)", x.left(1, 61), -6);
        due("left(61, 1)", x.left(61, 1), -6);
        due("as all was", x.count(2) + x.count(1), 0);
        RivetedSisters y = of(0, 0);
        due("left(60, 1) of two", y.left(60, 1), 1);
        due("left(60, 2) of two", y.left(60, 2), 0);
        due("left(60, 60) of two", y.left(60, 60), 0);
        due("no THINGS", new RivetedSisters().left(1, 60), 0);
    }

    private static void chance() {
        promise = 27;
        RivetedSisters x = six();
        due("above", x.chance(0, 1, 9, 2, 2, 0), 1);
        due("below", x.chance(0, 1, 9, 2, 2, 1), 4);
        due("itself, above", x.chance(0, 0, 10, 3, 3, 0), 8);
        due("itself, below", x.chance(0, 0, 10, 3, 3, 1), 27);
        due("most, above", x.chance(4, 5, 60, 8, 20, 0), 16983563041L);
        due("most, below", x.chance(4, 5, 60, 8, 20, 1), 25600000000L);
        due("sure, above", x.chance(0, 5, 9, 8, 20, 0), 1);
        due("sure, below", x.chance(0, 5, 9, 8, 20, 1), 1);
        due("no DAY", x.chance(0, 0, 60, 0, 2, 0), 1);
        due("-1", x.chance(6, 0, 0, 9, 1, 2), LONG_REFUSAL + 1);
        due("-1, other", x.chance(0, -1, 0, 9, 1, 2), LONG_REFUSAL + 1);
        due("-4, v", x.chance(0, 0, 0, 9, 21, 2), LONG_REFUSAL + 4);
        due("-4, n", x.chance(0, 0, 61, -1, 21, 2), LONG_REFUSAL + 4);
        due("-4, t", x.chance(0, 0, 61, 9, 1, 2), LONG_REFUSAL + 4);
        due("-6, v", x.chance(0, 0, 61, 8, 20, 2), LONG_REFUSAL + 6);
        due("-6, n", x.chance(0, 0, 60, 9, 20, 2), LONG_REFUSAL + 6);
        due("-6, t", x.chance(0, 0, 60, 8, 21, 2), LONG_REFUSAL + 6);
        due("-2", x.chance(0, 0, 60, 8, 20, 2), LONG_REFUSAL + 2);
        due("-2, below", x.chance(0, 0, 60, 8, 20, -1), LONG_REFUSAL + 2);
        due("count(11)", x.count(11), 2);
        due("count(12)", x.count(12), 2);
        due("count(14)", x.count(14), 3);
        due("count(16)", x.count(16), 3);
        due("as all was", x.count(2) + x.count(1), 0);
        x.drops(1, 60);
        due("BROKEN, above", x.chance(0, 1, 1, 3, 5, 0), 0);
        due("BROKEN, below", x.chance(0, 1, 1, 3, 5, 1), 1);
    }

    private static void twins() {
        promise = 28;
        due("no THINGS", new RivetedSisters().twins(1), -9);
        due("one THING", of(0).twins(1), -9);
        due("two THINGS", of(0, 1).twins(5), 1);
        RivetedSisters x = three();
        due("twins(5)", x.twins(5), 12);
        due("twins(0)", x.twins(0), -4);
        due("twins(61)", x.twins(61), -6);
        due("of several the first", of(0, 0, 0).twins(60), 1);
        x.cuts(1);
        due("twins(5), CUT", x.twins(5), 1);
        RivetedSisters y = of(0, 4, 3, 3);
        y.drops(2, 60);
        y.drops(3, 60);
        due("the BROKEN hear alike", y.twins(5), 23);
    }

    /** By a BLOW 5: 0 gets 5 there; 1 gets 5 there and 4 by one at 2; 2 gets 5 there. */
    private static RivetedSisters three() {
        RivetedSisters x = new RivetedSisters();
        x.thing(0, 9, 0);
        x.thing(0, 9, 0);
        x.thing(4, 0, 0);
        return x;
    }

    private static void hum() {
        promise = 29;
        due("no THINGS", new RivetedSisters().hum(1, 0), 0);
        due("no THINGS, QUIET", new RivetedSisters().hum(1, 1), -9);
        RivetedSisters x = three();
        due("hum(5, 0)", x.hum(5, 0), 19);
        due("hum(5, 1)", x.hum(5, 1), 0);
        due("two", of(0, 1).hum(5, 0), 19);
        due("two, QUIET", of(0, 1).hum(5, 1), 1);
        due("hum(0, 2)", x.hum(0, 2), -4);
        due("hum(61, 2)", x.hum(61, 2), -6);
        due("hum(1, 2)", x.hum(1, 2), -2);
        due("hum(1, -1)", x.hum(1, -1), -2);
        x.drops(1, 60);
        due("one BROKEN", x.hum(5, 0), 10);
        due("one BROKEN, QUIET", x.hum(5, 1), 1);
    }

    private static void apart() {
        promise = 30;
        RivetedSisters x = six();
        due("apart(0, 5)", x.apart(0, 5), 5);
        due("apart(4, 1)", x.apart(4, 1), 3);
        due("apart(2, 2)", x.apart(2, 2), 0);
        x.changes(0, 4);
        x.cuts(4);
        due("apart(0, 5), changed", x.apart(0, 5), 1);
        due("apart(0, 6)", x.apart(0, 6), -1);
        due("apart(-1, 0)", x.apart(-1, 0), -1);
    }

    private static void heaps() {
        promise = 31;
        due("no THINGS", new RivetedSisters().heaps(), 0);
        RivetedSisters x = six();
        due("heaps()", x.heaps(), 1);
        x.cuts(1);
        due("one CUT", x.heaps(), 2);
        x.drops(4, 20);
        due("two BROKEN", x.heaps(), 3);
        x.cuts(2);
        due("CUT at a BROKEN one", x.heaps(), 3);
        RivetedSisters y = of(0, 0);
        y.drops(0, 60);
        due("one BROKEN", y.heaps(), 1);
        y.drops(1, 60);
        due("all BROKEN", y.heaps(), 0);
    }

    private static void codes() {
        promise = 32;
        RivetedSisters x = six();
        due("codes(2, 2)", x.codes(2, 2), 7);
        due("codes(0, 5)", x.codes(0, 5), 0);
        due("codes(0, 1)", x.codes(0, 1), 7);
        due("codes(0, 4)", x.codes(0, 4), 1);
        due("codes(0, 6)", x.codes(0, 6), -1);
        due("codes(-1, 0)", x.codes(-1, 0), -1);
        due("nothing breaks", of(4).codes(0, 0), 60);
        x.drops(2, 60);
        due("codes(2, 2), BROKEN", x.codes(2, 2), 0);
    }

    private static void secret() {
        promise = 33;
        RivetedSisters x = six();
        due("secret(0, 1, 5)", x.secret(0, 1, 5), 7);
        due("secret(2, 0, 5)", x.secret(2, 0, 5), 2);
        due("secret(0, 1, 2)", x.secret(0, 1, 2), 1);
        due("secret(0, 0, 1)", x.secret(0, 0, 1), 1);
        due("secret(0, 2, 1)", x.secret(0, 2, 1), 0);
        due("secret(0, 1, 1)", x.secret(0, 1, 1), -3);
        due("secret(0, 1, 0)", x.secret(0, 1, 0), -3);
        due("secret(6, 0, 0)", x.secret(6, 0, 0), -1);
        due("secret(0, 6, 0)", x.secret(0, 6, 0), -1);
        due("secret(0, 0, 6)", x.secret(0, 0, 6), -1);
        due("secret(6, 6, 6)", x.secret(6, 6, 6), -1);
    }

    private static void tough() {
        promise = 34;
        RivetedSisters x = six();
        int[] due = {8, 7, 7, 3, 6, 5};
        for (int thing = 0; thing < 6; thing++) {
            due("tough(" + thing + ")", x.tough(thing), due[thing]);
        }
        due("tough(6)", x.tough(6), -1);
        due("tough(-1)", x.tough(-1), -1);
        due("nothing breaks", of(4).tough(0), 60);
        x.drops(0, 60);
        due("tough(0), BROKEN", x.tough(0), 60);
        RivetedSisters y = of(1, 3);
        due("none at all", y.tough(0), 2);
        due("all but the greatest", bellsAndJug().tough(0), 59);
    }

    private static void centre() {
        promise = 35;
        RivetedSisters x = six();
        due("centre(9, 0)", x.centre(9, 0), 2);
        due("centre(9, 1)", x.centre(9, 1), 4);
        due("centre(1, 0)", x.centre(1, 0), 0);
        due("centre(1, 1)", x.centre(1, 1), 1);
        due("centre(0, 2)", x.centre(0, 2), -4);
        due("centre(61, 2)", x.centre(61, 2), -6);
        due("centre(1, 2)", x.centre(1, 2), -2);
        due("centre(1, -1)", x.centre(1, -1), -2);
        x.drops(0, 60);
        due("not the BROKEN", x.centre(1, 0), 1);
        RivetedSisters y = of(0);
        y.drops(0, 60);
        due("all BROKEN", y.centre(1, 0), -9);
        due("all BROKEN, how many", y.centre(1, 1), -9);
    }

    private static void bestMend() {
        promise = 36;
        RivetedSisters x = four();
        due("bestMend(4, 20)", x.bestMend(4, 20), 3);
        due("bestMend(0, 9)", x.bestMend(0, 9), -9);
        due("bestMend(5, 1)", x.bestMend(5, 1), 5);
        due("bestMend(3, 2)", x.bestMend(3, 2), 3);
        due("bestMend(4, 4)", x.bestMend(4, 4), 3);
        x.cuts(3);
        due("bestMend(4, 4), CUT", x.bestMend(4, 4), 5);
        due("as all was", x.count(2), 40);
        due("bestMend(6, 0)", x.bestMend(6, 0), -1);
        due("bestMend(0, 0)", x.bestMend(0, 0), -4);
        due("bestMend(0, 61)", x.bestMend(0, 61), -6);
        due("none BROKEN", six().bestMend(0, 1), -9);
        RivetedSisters y = of(3, 4, 3, 4);
        y.drops(0, 60);
        y.drops(2, 60);
        due("most, not the first", y.bestMend(1, 3), 2);
        due("as many, the first", y.bestMend(1, 2), 0);
    }

    private static void bestFigure() {
        promise = 37;
        RivetedSisters x = six();
        due("bestFigure(0, 0, 9)", x.bestFigure(0, 0, 9), 1);
        due("bestFigure(5, 0, 9)", x.bestFigure(5, 0, 9), 0);
        due("bestFigure(1, 0, 9)", x.bestFigure(1, 0, 9), 3);
        due("as all was", x.thingOf(0, 1), 0);
        due("bestFigure(6, 0, 0)", x.bestFigure(6, 0, 0), -1);
        due("bestFigure(0, 6, 0)", x.bestFigure(0, 6, 0), -1);
        due("bestFigure(0, 0, 0)", x.bestFigure(0, 0, 0), -4);
        due("bestFigure(0, 0, 61)", x.bestFigure(0, 0, 61), -6);
        x.drops(0, 60);
        due("at a BROKEN one", x.bestFigure(0, 0, 9), 0);
    }

    private static void domino() {
        promise = 38;
        RivetedSisters x = six();
        due("domino(9)", x.domino(9), 3);
        due("domino(30)", x.domino(30), 5);
        due("domino(3)", x.domino(3), 0);
        due("domino(0)", x.domino(0), -4);
        due("domino(61)", x.domino(61), -6);
        due("as all was", x.count(2) + x.count(1), 0);
        x.drops(4, 20);
        due("domino(3), two BROKEN", x.domino(3), 2);
        RivetedSisters y = of(4, 3);
        due("the BELL first", y.domino(4), 1);
        due("no THINGS", new RivetedSisters().domino(60), 0);
    }

    private static void longest() {
        promise = 39;
        RivetedSisters x = six();
        due("longest(0)", x.longest(0), 2);
        due("longest(1)", x.longest(1), 8);
        x.cuts(2);
        due("CUT or not", x.longest(0), 2);
        due("longest(2)", x.longest(2), -2);
        due("longest(-1)", x.longest(-1), -2);
        x.changes(2, 3);
        due("longest(0), changed", x.longest(0), 2);
        x.changes(0, 3);
        due("farms 1 7 9 3 5 2", x.longest(0), 0);
        due("how far", x.longest(1), 6);
        due("no LINK", of(0).longest(0), -9);
        due("no LINK, how far", of(0).longest(1), -9);
        due("no way", of(0, 0, 0).longest(0), 0);
    }

    private static void spared() {
        promise = 40;
        RivetedSisters x = six();
        due("spared(9)", x.spared(9), 1 + 4 + 16);
        due("spared(10)", x.spared(10), 1 + 2 + 4 + 16);
        due("spared(3)", x.spared(3), 63);
        due("spared(0)", x.spared(0), -4);
        due("spared(61)", x.spared(61), -6);
        x.drops(0, 60);
        due("not the BROKEN", x.spared(3), 62);
        due("no THINGS", new RivetedSisters().spared(1), 0);
    }

    private static void mutual() {
        promise = 41;
        RivetedSisters x = six();
        due("mutual(9)", x.mutual(9), 0);
        due("mutual(3)", x.mutual(3), 1);
        due("mutual(0)", x.mutual(0), -4);
        due("mutual(61)", x.mutual(61), -6);
        due("all twos", of(4, 4, 4, 4).mutual(60), 6);
        RivetedSisters y = of(4, 4, 0, 4);
        y.drops(2, 60);
        due("one BROKEN", y.mutual(60), 1);
    }

    private static void row() {
        promise = 42;
        RivetedSisters x = new RivetedSisters();
        due("row(-1)", x.row(-1), -4);
        due("row(100)", x.row(100), -6);
        due("row(99)", x.row(99), 1);
        for (int i = 2; i <= 12; i++) {
            due("row " + i, x.row(0), i);
        }
        due("a thirteenth", x.row(0), -6);
        due("a thirteenth below", x.row(-1), -4);
        due("count(6)", x.count(6), 12);
    }

    private static void judge() {
        promise = 43;
        RivetedSisters x = six();
        due("no ROW", x.judge(), -9);
        tellRow(x, 0, 1, 2, 3, 4, 5);
        due("so", x.judge(), -9);
        due("count(6)", x.count(6), 0);
        tellRow(x, 0, 2, 1);
        due("not so", x.judge(), 1);
        due("count(6)", x.count(6), 0);
        x.changes(1, 2);
        tellRow(x, 0, 2, 1);
        due("changed", x.judge(), -9);
        tellRow(x, 0, 2, 1, 3, 4, 5, 6);
        due("no such PLACE", x.judge(), 6);
        RivetedSisters y = new RivetedSisters();
        y.row(0);
        due("no THINGS", y.judge(), 0);
    }

    private static void clear() {
        promise = 44;
        RivetedSisters x = new RivetedSisters();
        due("clear()", x.clear(), 0);
        tellRow(x, 5, 6, 7);
        due("clear()", x.clear(), 3);
        due("count(6)", x.count(6), 0);
        due("row(1)", x.row(1), 1);
    }

    /** With seed 1 the DRAWS are out of 16838 5758 10113 17515 31051 5627 23010 7419 16212 .. */
    private static void lots() {
        promise = 45;
        RivetedSisters x = six();
        due("lots(1, 1, 0)", x.lots(1, 1, 0), 4);
        due("lots(1, 1, 1)", x.lots(1, 1, 1), 9 + 28 + 10 + 5);
        due("as all was", x.count(2) + x.count(1), 0);
        due("lots(0, 1, 2)", x.lots(0, 1, 2), -4);
        due("lots(21, 1, 2)", x.lots(21, 1, 2), -6);
        due("lots(20, 1, 2)", x.lots(20, 1, 2), -2);
        due("lots(1, 1, -1)", x.lots(1, 1, -1), -2);
        due("no THINGS", new RivetedSisters().lots(20, 1, 1), 0);
        RivetedSisters bell = of(4);
        due("a BELL", bell.lots(20, LEAST_INT, 0), 0);
        due("a BELL's JUMPS", bell.lots(20, GREATEST_INT, 1), 0);
        RivetedSisters y = of(0);
        y.drops(0, 60);
        due("all BROKEN", y.lots(20, -1, 0), 0);
        due("a THING: 5758 modulo 30 is 28", of(0).lots(1, 1, 0), 1);
        due("a THING's JUMPS", of(0).lots(1, 1, 1), 14);
    }

    private static void image() {
        promise = 46;
        RivetedSisters x = four();
        due("image()", x.image(), 1);
        due("it can be TAKEN BACK still", x.count(7), 1);
        x.drops(4, 1);
        due("image() again", x.image(), 2);
        x.drops(4, 1);
        due("the later one", x.restore(), 2);
        due("a new one", new RivetedSisters().image(), 0);
    }

    private static void restore() {
        promise = 47;
        RivetedSisters x = six();
        due("no image", x.restore(), -3);
        due("count(13)", x.count(13), 1);
        x.drops(4, 20);
        x.cuts(0);
        x.changes(0, 1);
        x.image();
        x.feed('t');
        x.row(7);
        x.mends(3);
        x.cuts(0);
        x.changes(2, 3);
        x.drops(0, 60);
        x.thing(4, 9, 9);
        x.cuts(5);
        x.restore();
        due("restore()", x.restore(), 1);
        due("count(0)", x.count(0), 6);
        due("count(1)", x.count(1), 1);
        due("count(2)", x.count(2), 40);
        due("count(3)", x.count(3), 1);
        due("place(0, 0)", x.place(0, 0), 1);
        due("place(2, 0)", x.place(2, 0), 2);
        due("thingOf(0, 6)", x.thingOf(0, 6), 1);
        due("letters stay", x.count(5), 1);
        due("the ROW stays", x.count(6), 1);
        due("REFUSALS stay", x.count(13), 1);
        due("thing()", x.thing(0, 0, 0), 6);
        due("place(5, 1)", x.place(5, 1), 0);
        due("restore() again", x.restore(), 1);
        due("count(0)", x.count(0), 6);
    }

    private static void count() {
        promise = 48;
        RivetedSisters x = four();
        x.cuts(1);
        x.cuts(4);
        x.feed(0);
        tellRow(x, 1, 2);
        int[] due = {6, 1, 40, 18, 14, 1, 2, 3, -9, -9, -9, 0, 0, 0, 0, 0, 0, -9};
        for (int what = 0; what < due.length; what++) {
            due("count(" + what + ")", x.count(what), due[what]);
        }
        due("count(-1)", x.count(-1), -9);
        due("count(least)", x.count(LEAST_INT), -9);
        due("count(greatest)", x.count(GREATEST_INT), -9);
        x.tap(6);
        x.tap(6);
        x.who(3);
        x.mends(0);
        x.mends(0);
        x.mends(0);
        x.lasts(0);
        x.lasts(61);
        x.lasts(61);
        int[] refused = {2, 1, 3, 1, 0, 2};
        for (int i = 0; i < refused.length; i++) {
            due("count(" + (11 + i) + ")", x.count(11 + i), refused[i]);
        }
    }

    private static void wire() {
        newObject();
        feed();
        valley();
        thingOf();
        place();
        thing();
        drops();
        lastDay();
        mends();
        cuts();
        changes();
        back();
    }

    private static void minds() {
        gets();
        blow();
        reaches();
        breaks();
        harm();
        tap();
        who();
        whatKind();
        worst();
        bestCut();
        order();
        walk();
        woman();
        lasts();
        left();
        chance();
    }

    private static void rest() {
        twins();
        hum();
        apart();
        heaps();
        codes();
        secret();
        tough();
        centre();
        bestMend();
        bestFigure();
        domino();
        longest();
        spared();
        mutual();
        row();
        judge();
        clear();
        lots();
        image();
        restore();
        count();
    }

    public static void main(String[] args) {
        wire();
        minds();
        rest();
        System.out.println(wrong == 0 ? checks + " answers are as due"
            : wrong + " of " + checks + " answers are not as due");
        if (wrong != 0) {
            System.exit(1);
        }
    }
}
