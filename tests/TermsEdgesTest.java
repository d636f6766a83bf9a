/**
 * The edges that the section "Terms" names up to VALLEY: THINGS, THE WIRE, LINKS, DAY, LOSS,
 * STANDS, JUMP, a BLOW. Each test has its sentence. A THING of kind 4, figure 0 (a BELL, LOSS 1,
 * STANDS 99) serves where a BLOW has to pass.
 */
public final class TermsEdgesTest {
    private static final Edges EDGES = new Edges("Terms");
    private static final String[] KINDS = {"THING", "DISH", "JUG", "SAUCER", "BELL", "CUP"};

    private static final int[][] LOSS = {
        {1, 2, 3, 4, 5, 6, 7, 8, 9, 10}, {0, 1, 1, 2, 2, 3, 3, 4, 4, 5},
        {3, 4, 5, 6, 7, 8, 9, 10, 11, 12}, {1, 1, 1, 1, 1, 1, 1, 1, 1, 1},
        {1, 2, 2, 3, 3, 4, 4, 5, 5, 6}, {1, 2, 2, 3, 3, 4, 4, 5, 5, 6}};
    private static final int[][] STANDS = {
        {10, 11, 12, 13, 14, 15, 16, 17, 18, 19}, {6, 7, 8, 9, 10, 11, 12, 13, 14, 15},
        {15, 16, 17, 18, 19, 20, 21, 22, 23, 24}, {3, 3, 4, 4, 5, 5, 6, 6, 7, 7},
        {99, 99, 99, 99, 99, 99, 99, 99, 99, 99}, {6, 6, 6, 6, 6, 6, 6, 6, 6, 6}};
    /** How each KIND JUMPS by these BLOWS. */
    private static final int[] BLOWS = {1, 2, 3, 4, 5, 6, 59, 60};
    private static final int[][] JUMPS = {
        {0, 1, 1, 2, 2, 3, 29, 30}, {1, 2, 2, 3, 3, 4, 30, 31}, {0, 0, 1, 1, 1, 2, 19, 20},
        {2, 4, 4, 6, 6, 8, 60, 62}, {0, 0, 0, 0, 0, 0, 0, 0}, {1, 2, 2, 3, 3, 4, 30, 31}};

    private static void things() {
        EDGES.test("THINGS 0 .. 7 as they come", "thing 5 0 0 = 0, thing 0 0 0 = 1, "
            + "thing 1 0 0 = 2, times 4 thing 0 0 0, thing 4 0 0 = 7, thingOf 0 0 = 5, "
            + "thingOf 7 0 = 4, count 0 = 8");
        EDGES.test("8 at most", "times 8 thing 0 0 0, thing 0 0 0 = -6, count 0 = 8, "
            + "thingOf 8 0 = -1");
        EDGES.test("of KINDS: 0 THING is the first", "thing 0 0 0 = 0, thing -1 0 0 = -2, "
            + "count 0 = 1");
        EDGES.test("5 CUP is the last", "thing 5 0 0 = 0, thing 6 0 0 = -2, count 0 = 1");
        EDGES.test("a FIGURE (0 .. 9): 0", "thing 0 0 5 = 0, thingOf 0 1 = 0, thing 0 -1 5 = -4");
        EDGES.test("a FIGURE (0 .. 9): 9", "thing 0 9 5 = 0, thingOf 0 1 = 9, thing 0 10 5 = -6");
        EDGES.test("a FARM (0 .. 9): 0", "thing 0 5 0 = 0, thingOf 0 2 = 0, thing 0 5 -1 = -4");
        EDGES.test("a FARM (0 .. 9): 9", "thing 0 5 9 = 0, thingOf 0 2 = 9, thing 0 5 10 = -6");
        EDGES.test("BROKEN or not (not at first)", "make 000, thingOf 0 3 = 0, count 2 = 0");
        EDGES.test("not at first, where a BROKEN one of that number was", "make 000 000, image, "
            + "make 000, drops 2 60 = 1, restore, thing 0 0 0 = 2, thingOf 2 3 = 0, count 2 = 0");
    }

    private static void wire() {
        EDGES.test("THE WIRE: one that comes is joined last", "make 000 000 000, changes 0 2, "
            + "thing 0 0 0 = 3, place 3 0 = 3, thingOf 3 6 = 3, place 0 0 = 2, place 2 0 = 0");
        EDGES.test("the first that comes is in PLACE 0", "make 000, place 0 0 = 0, "
            + "thingOf 0 6 = 0, place 1 0 = -1");
        EDGES.test("joined last, where another order was", "make 000 000, image, make 000, "
            + "changes 0 2, restore, thing 0 0 0 = 2, place 2 0 = 2, place 0 0 = 0");
        EDGES.test("LINKS: one THING has none", "make 000, cuts 0 = -1");
        EDGES.test("LINKS: of two THINGS 0 alone", "make 000 000, cuts 0 = 1, cuts 1 = -1");
        EDGES.test("LINKS: of eight THINGS 6 is the last", "times 8 thing 0 0 0, cuts 6 = 1, "
            + "cuts 7 = -1, count 3 = 64");
        EDGES.test("LINKS are between PLACES, not THINGS", "make 400 400 400, cuts 0 = 1, "
            + "changes 0 2, place 0 1 = 1, place 1 1 = 0, blow 2 9 0 = 4, blow 1 9 0 = 3");
        EDGES.test("CUT or not (not at first)", "make 400 400, place 0 1 = 0, count 3 = 0, "
            + "blow 0 9 0 = 3");
        EDGES.test("not at first, where a CUT one was", "make 400 400, image, make 400, "
            + "cuts 1 = 1, restore, make 400, place 1 1 = 0, count 3 = 0, blow 1 9 0 = 7");
        EDGES.test("DAY 0 at first", "count 1 = 0, image = 0");
        EDGES.test("a DAY for each drop, also if nothing breaks", "make 400, drops 0 1 = 0, "
            + "count 1 = 1, drops 0 60 = 0, count 1 = 2");
        EDGES.test("a DAY for each drop of a VALLEY", "make 400, tell d001;d060;d030; = 3, "
            + "count 1 = 3");
        EDGES.test("no DAY for what is refused", "make 000, drops 0 10 = 1, drops 0 10 = -3, "
            + "drops 0 0 = -4, drops 0 61 = -6, drops 1 1 = -1, count 1 = 1");
        EDGES.test("no DAY for else", "make 000 000, drops 0 10 = 1, mends 0, cuts 0, "
            + "changes 0 1, tell m0; = -2000, tell c0;x01; = 2, blow 0 60 1, domino 60, left 60 9, "
            + "lots 9 9 0, count 1 = 1");
        EDGES.testFar("DAY 999 is the last", "make 400, times 998 drops 0 1, drops 0 1 = 0, "
            + "count 1 = 999, drops 0 1 = -6, count 1 = 999, drops 0 0 = -4, drops 1 1 = -1");
        EDGES.testFar("DAY above 999 is a FAULT", "make 400, times 998 drops 0 1, "
            + "tell d001;d001; = -2005, count 1 = 998, tell c9;d001; = -2000, tell d001; = 1, "
            + "count 1 = 999, tell t000;d001; = -2005, count 0 = 1");
        EDGES.testFar("on DAY 999 a BROKEN one: -6 is told ahead of -3", "make 000 400, "
            + "drops 0 60, times 998 drops 1 1, count 1 = 999, drops 0 60 = -6");
    }

    private static void figures() {
        for (int kind = 0; kind < KINDS.length; kind++) {
            for (int figure = 0; figure <= 9; figure++) {
                String made = "make " + kind + figure + "0, ";
                EDGES.test("LOSS: " + KINDS[kind] + ", FIGURE " + figure, made
                    + "thingOf 0 4 = " + LOSS[kind][figure] + ", count 4 = " + LOSS[kind][figure]);
                EDGES.test("STANDS: " + KINDS[kind] + ", FIGURE " + figure, made
                    + "thingOf 0 5 = " + STANDS[kind][figure]);
            }
            for (int i = 0; i < BLOWS.length; i++) {
                EDGES.test("JUMP: " + KINDS[kind] + " by " + BLOWS[i], "make " + kind + "90, "
                    + "gets 0 " + BLOWS[i] + " 0 1 = " + JUMPS[kind][i]);
            }
        }
    }

    /** At one itself: a BLOW of STANDS breaks it, one less does not, one more does. */
    private static void stands() {
        for (int kind = 0; kind < KINDS.length; kind++) {
            for (int figure : new int[] {0, 9}) {
                int stands = STANDS[kind][figure];
                String made = "make " + kind + figure + "0, ";
                String name = KINDS[kind] + ", FIGURE " + figure;
                if (kind == 4) {
                    EDGES.test("BELL 99: no BLOW breaks it", made + "blow 0 60 1 = 0, "
                        + "breaks 0 0 = -9, drops 0 60 = 0");
                    continue;
                }
                EDGES.test("a blow of that breaks it: " + name, made + "blow 0 " + stands
                    + " 1 = 1, breaks 0 0 = " + stands + ", drops 0 " + stands + " = 1");
                EDGES.test("a blow of less does not: " + name, made + "blow 0 " + (stands - 1)
                    + " 1 = 0, drops 0 " + (stands - 1) + " = 0, thingOf 0 3 = 0");
                EDGES.test("a blow of more does: " + name, made + "blow 0 " + (stands + 1)
                    + " 1 = 1, blow 0 60 1 = 1, drops 0 60 = 1, thingOf 0 3 = 1");
            }
        }
        EDGES.test("who gets a blow of STANDS by passing is BROKEN", "make 400 000, "
            + "drops 0 11 = 1, count 2 = 2");
        EDGES.test("who gets less than STANDS by passing is not", "make 400 000, "
            + "drops 0 10 = 0, count 2 = 0");
    }

    private static void blows() {
        EDGES.test("A BLOW (1 .. 60): 1", "make 000, drops 0 1 = 0, drops 0 0 = -4");
        EDGES.test("A BLOW (1 .. 60): 60", "make 400, drops 0 60 = 0, drops 0 61 = -6");
        EDGES.test("that one gets it", "make 400, gets 0 1 0 0 = 1, gets 0 60 0 0 = 60");
        EDGES.test("it passes it on both ways", "make 400 400 400 400 400, gets 2 3 1 0 = 2, "
            + "gets 2 3 3 0 = 2, gets 2 3 0 0 = 1, gets 2 3 4 0 = 1, gets 2 3 2 0 = 3");
        EDGES.test("away from where it came from", "make 400 400 400, gets 0 9 0 0 = 9, "
            + "gets 0 9 1 0 = 8, gets 0 9 2 0 = 7, hum 9 0 = 73");
        EDGES.test("less by its LOSS (of who passes it, not of who gets it)", "make 490 000, "
            + "gets 0 9 1 0 = 3, gets 1 9 0 0 = 8");
        EDGES.test("if that is above 0 still: 1 is", "make 440 000, gets 0 4 1 0 = 1, "
            + "blow 0 4 0 = 3");
        EDGES.test("if that is above 0 still: 0 is not", "make 440 000, gets 0 3 1 0 = 0, "
            + "blow 0 3 0 = 1, gets 0 3 1 1 = 0");
        EDGES.test("if that is above 0 still: below 0 is not", "make 440 000, gets 0 1 1 0 = 0, "
            + "blow 0 1 0 = 1, hum 1 0 = 2");
        EDGES.test("by a LOSS of 0 it passes whole", "make 100 100 100, blow 0 1 0 = 7, "
            + "gets 0 1 2 0 = 1");
        EDGES.test("if it was not BROKEN by it, at the first", "make 000 400, gets 0 9 1 0 = 8, "
            + "gets 0 10 1 0 = 0, blow 0 10 0 = 1");
        EDGES.test("if it was not BROKEN by it, on the way", "make 400 000 400, "
            + "gets 0 10 2 0 = 8, gets 0 11 1 0 = 10, gets 0 11 2 0 = 0");
        EDGES.test("BROKEN in the middle it passes to neither side", "make 400 000 400, "
            + "blow 1 10 0 = 2, blow 1 9 0 = 7");
        EDGES.test("if the LINK is not CUT, up THE WIRE", "make 400 400 400, cuts 1, "
            + "blow 0 9 0 = 3, blow 1 9 0 = 3");
        EDGES.test("if the LINK is not CUT, down THE WIRE", "make 400 400 400, cuts 0, "
            + "blow 2 9 0 = 6, blow 1 9 0 = 6");
        EDGES.test("to the THING beyond, if that is not BROKEN", "make 400 000 400, drops 1 10, "
            + "blow 0 60 0 = 1, blow 2 60 0 = 4, gets 0 60 1 0 = 0");
        EDGES.test("beyond the first and the last PLACE there is none", "make 400 400, "
            + "blow 0 60 0 = 3, blow 1 60 0 = 3, blow 0 60 4 = 1, blow 1 60 4 = 0");
        EDGES.test("THE WIRE is by PLACES, not by numbers", "make 400 400 400, changes 1 2, "
            + "gets 0 9 2 0 = 8, gets 0 9 1 0 = 7");
        EDGES.test("A BROKEN one gets none", "make 400 000, drops 1 60, gets 0 60 1 0 = 0, "
            + "gets 0 60 1 1 = 0, breaks 0 1 = -9, reaches 0 1 = -9");
        EDGES.test("a BLOW at a BROKEN one does nothing", "make 000 400, drops 0 60, "
            + "blow 0 60 0 = 0, blow 0 60 1 = 0, blow 0 60 2 = 0, blow 0 60 3 = 0, "
            + "blow 0 60 4 = -9, gets 0 60 1 0 = 0");
        EDGES.test("who gets none does not JUMP, of no KIND", "make 000 100 200 300 400 500, "
            + "cuts 0, gets 0 5 1 1 = 0, gets 0 5 2 1 = 0, gets 0 5 3 1 = 0, gets 0 5 4 1 = 0, "
            + "gets 0 5 5 1 = 0, gets 1 5 0 1 = 0, blow 0 5 3 = 2");
    }

    public static void main(String[] args) {
        things();
        wire();
        figures();
        stands();
        blows();
        EDGES.end();
    }
}
