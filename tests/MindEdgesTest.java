/**
 * The edges of promises 12 to 27: a BLOW in mind, who dropped it, the best LINK and order, the
 * woman and the valley, days, drops by chance. Each test has its sentence. A THING of kind 4,
 * figure 0 (a BELL, LOSS 1, STANDS 99) serves where a BLOW has to pass; kind 3, figure 0 is a
 * SAUCER that a BLOW 3 breaks; kind 0, figure 0 a THING of LOSS 1 that a BLOW 10 breaks.
 */
public final class MindEdgesTest {
    private static final Edges EDGES = new Edges("Promises 12 to 27");
    /** Six BELLS of LOSS 6 and a JUG of LOSS 12 that STANDS 24 behind them. */
    private static final String FAR = "make 490 490 490 490 490 490 290, ";

    private static void gets() {
        EDGES.test("12: what one gets (0 none)", "make 400 400, cuts 0, gets 0 60 1 0 = 0");
        EDGES.test("12: another one gets: itself all of it", "make 400, gets 0 60 0 0 = 60");
        EDGES.test("12: the last that gets some", "make 400 400 400, gets 0 3 2 0 = 1, "
            + "gets 0 2 2 0 = 0");
        EDGES.test("12: JUMPS (1), who gets none: 0", "make 400 300, gets 0 1 1 1 = 0, "
            + "gets 0 2 1 1 = 2");
        EDGES.test("12: what 0 and 1 alone", "make 000, gets 0 5 0 0 = 5, gets 0 5 0 1 = 2, "
            + "gets 0 5 0 2 = -2, gets 0 5 0 -1 = -2");
        EDGES.test("13: who gets some: all eight", "times 8 thing 4 0 0, blow 0 8 0 = 255, "
            + "blow 0 8 2 = 8, blow 0 7 0 = 127, blow 0 7 2 = 7, blow 7 60 0 = 255");
        EDGES.test("13: who gets some: one alone", "times 8 thing 4 0 0, blow 7 1 0 = 128, "
            + "blow 7 1 2 = 1, blow 7 1 4 = 7");
        EDGES.test("13: who is BROKEN: none", "make 300, blow 0 2 1 = 0");
        EDGES.test("13: who is BROKEN: two by one BLOW", "make 300 400 300, blow 1 4 1 = 5, "
            + "blow 1 3 1 = 0");
        EDGES.test("13: it is in mind", "make 300, blow 0 60 1 = 1, blow 0 60 1 = 1, count 2 = 0, "
            + "count 1 = 0, count 7 = 0");
        EDGES.test("13: all JUMPS together", "make 100 100 300, blow 0 2 3 = 8, gets 0 2 2 1 = 4");
        EDGES.test("13: the farthest PLACE: of one alone its own", "make 400, blow 0 1 4 = 0");
        EDGES.test("13: of two as far the lesser", "make 400 400 400, blow 1 9 4 = 0, "
            + "blow 1 1 4 = 1");
        EDGES.test("13: farther up", "make 400 400 400 400, blow 1 9 4 = 3");
        EDGES.test("13: farther up, not from the first PLACE", "make 400 400 400 400 400, cuts 0, "
            + "blow 2 3 4 = 4, blow 2 2 4 = 1");
        EDGES.test("13: farther down", "make 400 400 400 400, blow 2 9 4 = 0");
        EDGES.test("13: who gets none is not counted", "make 400 400 400, blow 0 2 4 = 1");
        EDGES.test("13: a PLACE, not a THING", "make 400 400 400, changes 0 2, blow 2 9 4 = 2, "
            + "blow 0 9 4 = 0");
        EDGES.test("13: -9 nobody gets some", "make 000, drops 0 10, blow 0 60 4 = -9, "
            + "count 11 = 0");
        EDGES.test("13: -2 what 4 is the last", "make 400, blow 0 1 4 = 0, blow 0 1 5 = -2, "
            + "blow 0 1 -1 = -2");
    }

    private static void leastBlows() {
        EDGES.test("14: one itself: 1", "make 290, reaches 0 0 = 1");
        EDGES.test("14: the least by which it gets some", "make 440 000, reaches 0 1 = 4, "
            + "reaches 1 0 = 2");
        EDGES.test("14: far along THE WIRE", FAR + "make 400, reaches 0 7 = 49");
        EDGES.test("14: -9 it would break on the way", "make 000 290 400, reaches 0 1 = 2, "
            + "reaches 0 2 = -9");
        EDGES.test("14: -9 CUT", "make 400 400, cuts 0, reaches 0 1 = -9, reaches 1 0 = -9");
        EDGES.test("14: -9 that one is BROKEN", "make 400 000, drops 1 10, reaches 0 1 = -9");
        EDGES.test("14: -9 the one is BROKEN, itself too", "make 000 400, drops 0 10, "
            + "reaches 0 1 = -9, reaches 0 0 = -9");
        EDGES.test("14: -9 a BROKEN one between", "make 400 000 400, drops 1 10, reaches 0 2 = -9");
        EDGES.test("15: (or itself)", "make 000, breaks 0 0 = 10");
        EDGES.test("15: the greatest BLOW, 60", FAR + "breaks 0 6 = 60, breaks 1 6 = 54");
        EDGES.test("15: -9 it would have to be above 60", "make 490, " + FAR + "breaks 1 7 = 60, "
            + "breaks 0 7 = -9");
        EDGES.test("15: -9 a BELL", "make 400 400, breaks 0 0 = -9, breaks 0 1 = -9");
        EDGES.test("15: -9 the one breaks first", "make 000 000, breaks 0 1 = -9");
        EDGES.test("15: -9 BROKEN already", "make 400 000, drops 1 10, breaks 0 1 = -9, "
            + "breaks 1 1 = -9");
        EDGES.test("15: -9 CUT", "make 400 000, breaks 0 1 = 11, cuts 0, breaks 0 1 = -9");
    }

    private static void harm() {
        EDGES.test("16: 100 the THING and the BLOW", "make 400 300, cuts 0, harm 1 0 = 103");
        EDGES.test("16: THING 0", "make 300, harm 0 0 = 3, harm 0 1 = 0");
        EDGES.test("16: fewest others, not the least", "make 400 300 300, changes 0 1, cuts 1, "
            + "harm 1 0 = 4, cuts 1, harm 1 0 = 103, harm 1 1 = 0");
        EDGES.test("16: of several the least: the THING", "make 400 000, harm 1 0 = 11");
        EDGES.test("16: of several the least: the BLOW", "make 000, harm 0 0 = 10");
        EDGES.test("16: by the BLOW 60", FAR + "harm 6 0 = 60");
        EDGES.test("16: -9, a BELL", "make 400, harm 0 0 = -9, harm 0 1 = -9, count 11 = 0");
        EDGES.test("16: -9, BROKEN already", "make 400 000, drops 1 10, harm 1 0 = -9, "
            + "harm 1 1 = -9");
        EDGES.test("16: -1, -2", "make 300, harm 1 0 = -1, harm 0 2 = -2, harm 0 -1 = -2, "
            + "harm 1 2 = -1");
        EDGES.test("17: another one: alone -9", "make 400, tap 0 = -9");
        EDGES.test("17: another one, of two", "make 400 400, tap 0 = 102, tap 1 = 2");
        EDGES.test("17: by the BLOW 1", "make 100 400, tap 1 = 1, tap 0 = 102");
        EDGES.test("17: another one that is not BROKEN", "make 400 000 400, changes 0 2, "
            + "drops 1 10, tap 0 = -9, tap 2 = -9");
        EDGES.test("17: -9, it is BROKEN itself", "make 000 400, drops 0 10, tap 0 = -9");
        EDGES.test("17: -9, CUT", "make 400 400, cuts 0, tap 0 = -9");
        EDGES.test("17: -9, what would reach it breaks on the way", "make 400 590, tap 0 = -9, "
            + "tap 1 = 2");
        EDGES.test("17: nothing is BROKEN by it, itself neither", "make 400 100 400, tap 1 = 2, "
            + "blow 0 2 2 = 3, blow 0 7 2 = 2, blow 0 7 1 = 2");
        EDGES.test("17: fewest others, not the least", "make 400 400 400 400, changes 0 1, "
            + "changes 1 2, changes 2 3, tap 2 = 102");
        EDGES.test("17: neither of the two is another one", "make 400 400 400, tap 1 = 2");
        EDGES.test("17: of several the least", "make 400 400 400, tap 0 = 102, tap 2 = 3");
    }

    private static void who() {
        EDGES.test("18: none: 0, -9, 0", "make 000, numbers 31, who 0 = 0, who 1 = -9, who 2 = 0");
        EDGES.test("18: none, where there were some", "make 000, who 0 = 60, who 1 = 1, "
            + "who 2 = 1, numbers 31, who 1 = -9, who 2 = 0, who 0 = 0");
        EDGES.test("18: no THINGS: 0, -9, 0", "who 0 = 0, who 1 = -9, who 2 = 0");
        EDGES.test("18: the BLOW 60", "make 000, numbers 30, who 0 = 1, who 1 = 60, who 2 = 1");
        EDGES.test("18: the BLOW 1", "make 000, numbers 0, who 0 = 1, who 1 = 1");
        EDGES.test("18: the least: 100 the THING and the BLOW", "make 400 000, numbers 0 30, "
            + "who 0 = 1, who 1 = 160, who 2 = 2");
        EDGES.test("18: no ROW: all of them", "make 000 000 000, who 0 = 180, who 1 = 1, "
            + "who 2 = 7");
        EDGES.test("18: THINGS 0, 1, .. as far as the ROW tells", "make 400 000, numbers 0, "
            + "who 0 = 120, who 2 = 3");
        EDGES.test("18: not the BROKEN", "make 000 400, drops 0 10, numbers 0, who 0 = 60, "
            + "who 1 = 101, who 2 = 2");
        EDGES.test("18: all BROKEN", "make 000, drops 0 10, who 0 = 0, who 1 = -9, who 2 = 0");
        EDGES.test("18: 99 for 99 or more: 62 is the most there is", "make 300, numbers 62, "
            + "who 0 = 1, who 1 = 60, clear, numbers 99, who 0 = 0");
        EDGES.test("18: it stays", "make 000, numbers 30, who 0, who 1, who 2, count 6 = 1, "
            + "judge = 0");
        EDGES.test("18: -2", "make 000, who 3 = -2, who -1 = -2, who 2 = 1");
        EDGES.test("18: -3 more numbers than THINGS", "make 000, numbers 0 0, who 0 = -3, "
            + "who 1 = -3, who 2 = -3, count 6 = 2");
        EDGES.test("18: as many numbers as THINGS", "times 8 thing 4 0 0, "
            + "numbers 0 0 0 0 0 0 0 0, who 0 = 480, row 0, who 0 = -3");
        EDGES.test("18: -2 ahead of -3", "numbers 0, who 3 = -2, who 2 = -3");
        EDGES.test("19: KINDS (bits): none", "make 000, numbers 99, whatKind 0 5 0 0 = 0");
        EDGES.test("19: KINDS (bits): all", "make 000, whatKind 0 5 0 0 = 63");
        EDGES.test("19: KINDS: 0, the first", "make 500, numbers 2, whatKind 0 5 0 0 = 1");
        EDGES.test("19: KINDS: 5, the last", "make 000, numbers 3, whatKind 0 5 0 0 = 34");
        EDGES.test("19: FIGURES (bits 0 .. 9): all", "make 000, numbers 2, "
            + "whatKind 0 5 0 1 = 1023");
        EDGES.test("19: FIGURES: none", "make 000, numbers 3, whatKind 0 5 0 1 = 0");
        EDGES.test("19: FIGURES: some", "make 050 000, numbers 2 1, whatKind 0 5 0 1 = 6");
        EDGES.test("19: FIGURES: the first and the last", "make 050 000, numbers 5 0, "
            + "whatKind 0 10 0 1 = 769");
        EDGES.test("19: another one (or itself)", "make 000 000, numbers 2 2, "
            + "whatKind 0 5 1 0 = 1, clear, numbers 3 2, whatKind 0 5 0 0 = 34");
        EDGES.test("19: a BLOW at a BROKEN one: nobody JUMPS", "make 000 100, drops 0 10, "
            + "numbers 0 0, whatKind 0 60 1 0 = 63, row 0, whatKind 0 60 1 0 = -3");
        EDGES.test("19: it stays, the KIND too", "make 000, numbers 2, whatKind 0 5 0 0, "
            + "whatKind 0 5 0 1, count 6 = 1, thingOf 0 0 = 0, thingOf 0 1 = 0, judge = 0");
        EDGES.test("19: -3 more numbers than THINGS", "make 000, numbers 0 0, "
            + "whatKind 0 5 0 0 = -3, whatKind 0 5 0 1 = -3");
        EDGES.test("19: -1, -4, -6, -2 ahead of -3", "make 000, numbers 0 0, "
            + "whatKind 1 5 0 0 = -1, whatKind 0 5 1 0 = -1, whatKind 0 0 0 0 = -4, "
            + "whatKind 0 61 0 0 = -6, whatKind 0 5 0 2 = -2");
    }

    private static void worst() {
        EDGES.test("20: -9 nothing is BROKEN by any; 0 none", "make 300 400, worst 2 0 = -9, "
            + "worst 2 1 = 0, worst 3 0 = 0, worst 3 1 = 1");
        EDGES.test("20: no THINGS", "worst 60 0 = -9, worst 60 1 = 0");
        EDGES.test("20: all BROKEN", "make 300, drops 0 3, worst 60 0 = -9, worst 60 1 = 0");
        EDGES.test("20: of several the least", "make 300 300, worst 3 0 = 0, worst 3 1 = 1");
        EDGES.test("20: most, not the least", "make 300 400 300, worst 4 0 = 1, worst 4 1 = 2");
        EDGES.test("20: BLOW 60", FAR + "worst 60 0 = 0, worst 59 0 = 1");
        EDGES.test("20: -4, -6 ahead of -2", "worst 0 2 = -4, worst 61 2 = -6, worst 60 2 = -2, "
            + "worst 1 -1 = -2");
        EDGES.test("21: -9 there is none: no THINGS", "bestCut 60 0 = -9, bestCut 60 1 = -9");
        EDGES.test("21: -9 there is none: one THING", "make 300, bestCut 60 0 = -9, "
            + "bestCut 60 1 = -9");
        EDGES.test("21: -9 there is none: all CUT", "make 300 300, cuts 0, bestCut 60 0 = -9, "
            + "bestCut 60 1 = -9");
        EDGES.test("21: the one LINK that is not CUT, the last", "times 8 thing 4 0 0, cuts 0, "
            + "cuts 1, cuts 2, cuts 3, cuts 4, cuts 5, bestCut 60 0 = 6, bestCut 60 1 = 0");
        EDGES.test("21: of several the least: nothing breaks", "make 400 400 400, "
            + "bestCut 60 0 = 0, bestCut 60 1 = 0, cuts 0, bestCut 60 0 = 1");
        EDGES.test("21: of several the least, not the first LINK", "make 400 300 400 300, "
            + "bestCut 4 0 = 1, bestCut 4 1 = 1");
        EDGES.test("21: one LINK alone", "make 300 400 300 300 400 300, bestCut 4 0 = 0, "
            + "bestCut 4 1 = 2");
        EDGES.test("21: anywhere, at THING 0 too", "make 400 300 300 400, changes 0 3, "
            + "changes 2 3, bestCut 4 0 = 1, bestCut 4 1 = 1");
        EDGES.test("21: a CUT LINK is none, and stays CUT", "make 400 300 400 300, cuts 1, "
            + "bestCut 4 0 = 0, bestCut 4 1 = 1, count 3 = 2");
    }

    private static void order() {
        EDGES.test("22: no THINGS", "order 60 -1 = 0, order 60 0 = -9");
        EDGES.test("22: one THING", "make 000, order 9 -1 = 0, order 10 -1 = 1, order 10 0 = 0, "
            + "order 10 1 = -9");
        EDGES.test("22: 6 at most: six", "make 300 400 300 400 400 400, order 4 -1 = 1, "
            + "order 4 0 = 0, order 4 1 = 1, order 4 2 = 3, order 4 3 = 2, order 4 4 = 4, "
            + "order 4 5 = 5, order 4 6 = -9");
        EDGES.test("22: -3 more than 6 THINGS", "times 7 thing 4 0 0, order 4 -1 = -3, "
            + "order 4 0 = -3, order 4 9 = -3, count 13 = 3");
        EDGES.test("22: LINKS none CUT", "make 300 400 300, cuts 0, cuts 1, order 4 -1 = 1, "
            + "order 4 1 = 2, order 4 2 = 1, count 3 = 3");
        EDGES.test("22: of several the first (by PLACES)", "make 400 400 400, changes 0 2, "
            + "order 60 -1 = 0, order 60 0 = 0, order 60 1 = 1, order 60 2 = 2, place 0 0 = 2");
        EDGES.test("22: whatever the order is now", "make 300 400 300 300, changes 1 3, "
            + "order 4 -1 = 1, order 4 0 = 0, order 4 1 = 2, order 4 2 = 3, order 4 3 = 1");
        EDGES.test("22: the BROKEN stay so", "make 300 400 300, drops 0 3, order 4 -1 = 1, "
            + "order 4 1 = 1, order 4 2 = 2");
        EDGES.test("22: -9 no such PLACE", "make 400, order 1 0 = 0, order 1 1 = -9, "
            + "order 1 5 = -9, order 1 6 = -9, order 1 8 = -9, order 1 greatest = -9");
        EDGES.test("22: -4 i below -1", "make 400, order 1 -1 = 0, order 1 -2 = -4, "
            + "order 1 least = -4");
        EDGES.test("22: -4 ahead of -6 ahead of -3", "times 7 thing 4 0 0, order 0 -2 = -4, "
            + "order 61 -2 = -4, order 61 0 = -6, order 60 0 = -3");
        EDGES.test("23: no THINGS", "walk -2 = 0, walk -1 = 0, walk 0 = -9");
        EDGES.test("23: one THING", "make 009, walk -2 = 0, walk -1 = 0, walk 0 = 0, walk 1 = -9");
        EDGES.test("23: eight THINGS, the longest WALK", "make 000 009 000 009 000 009 000 009, "
            + "walk -2 = 63, walk -1 = 9, walk 0 = 0, walk 1 = 2, walk 2 = 4, walk 3 = 6, "
            + "walk 4 = 1, walk 7 = 7, walk 8 = -9, walk greatest = -9");
        EDGES.test("23: the first such order goes down", "make 009 000 005, walk 0 = 0, "
            + "walk 1 = 2, walk 2 = 1, walk -1 = 9");
        EDGES.test("23: the first such order goes up", "make 002 009 005, walk 0 = 0, "
            + "walk 1 = 2, walk 2 = 1, walk -1 = 7");
        EDGES.test("23: the first such order begins with another one", "make 005 000 009, "
            + "walk 0 = 1, walk 1 = 0, walk 2 = 2, walk -1 = 9, walk -2 = 14");
        EDGES.test("23: one FARM: all orders are as short", "make 005 005 005, changes 0 2, "
            + "walk -1 = 0, walk 0 = 0, walk 1 = 1, walk 2 = 2");
        EDGES.test("23: one FARM, eight THINGS", "times 8 thing 0 0 9, walk -2 = 0, walk -1 = 0, "
            + "walk 0 = 0, walk 7 = 7");
        EDGES.test("23: of one FARM those of lesser number first, down too",
            "make 009 001 005 001 009, walk 0 = 0, walk 1 = 4, walk 2 = 2, walk 3 = 1, walk 4 = 3");
        EDGES.test("23: CUT and BROKEN are no matter", "make 000 009 004, cuts 0, drops 1 10, "
            + "walk -2 = 14, walk -1 = 9, walk 1 = 2");
        EDGES.test("23: -4 i below -2", "make 000, walk -3 = -4, walk least = -4, walk -2 = 0");
    }

    private static void woman() {
        EDGES.test("24: no THINGS", "woman 60 0 = -9, woman 60 1 = -9");
        EDGES.test("24: all BROKEN", "make 300 300, drops 0 3, drops 1 3, woman 60 0 = -9, "
            + "woman 60 1 = -9");
        EDGES.test("24: not BROKEN", "make 300 400, drops 0 3, woman 60 0 = 0, woman 60 1 = 1");
        EDGES.test("24: one alone: no LINK to CUT", "make 300, woman 60 0 = 0, woman 60 1 = 0");
        EDGES.test("24: all CUT: none more", "make 400 300, cuts 0, woman 60 0 = 0, "
            + "woman 60 1 = 0");
        EDGES.test("24: all CUT, where other BLOWS broke some", "make 300 400 300, cuts 0, cuts 1, "
            + "worst 4 1 = 1, woman 4 0 = 0, woman 4 1 = 0");
        EDGES.test("24: -9, where another answer was", "make 300, centre 60 0 = 0, woman 60 1 = 0, "
            + "drops 0 3, woman 60 0 = -9, woman 60 1 = -9");
        EDGES.test("24: one LINK: the valley CUTS it", "make 400 300, woman 4 0 = 0, "
            + "woman 4 1 = 0");
        EDGES.test("24: one LINK more, not two", "make 300 400 300, woman 4 0 = 1, "
            + "woman 4 1 = 1, count 3 = 0");
        EDGES.test("24: of several the least", "make 300 400 300 400 300, woman 4 0 = 1, "
            + "woman 4 1 = 1");
        EDGES.test("24: others, not herself's", "make 300 300, cuts 0, woman 60 0 = 0");
        EDGES.test("25: the first DAY: 1", "make 000, lasts 10 = 1");
        EDGES.test("25: -9", "make 000, lasts 9 = -9, lasts 10 = 1");
        EDGES.test("25: no THINGS", "lasts 60 = -9");
        EDGES.test("25: all BROKEN", "make 000, drops 0 10, lasts 60 = -9");
        EDGES.test("25: the last of eight", "times 7 thing 4 0 0, thing 0 0 0 = 7, cuts 6, "
            + "lasts 10 = 8, lasts 9 = -9");
        EDGES.test("25: BROKEN ones are passed over without a DAY", "make 000 400 000, cuts 0, "
            + "cuts 1, drops 0 10, lasts 10 = 2");
        EDGES.test("25: THINGS 0, 1, .., not PLACES", "make 400 000, changes 0 1, lasts 10 = 2, "
            + "lasts 11 = 1");
        EDGES.test("25: DAYS from now, not DAY", "make 400 000, drops 0 1, drops 0 1, "
            + "lasts 10 = 2, count 1 = 2");
        EDGES.test("26: n 0: as now", "make 000 000, left 60 0 = 2, drops 0 10, left 60 0 = 1");
        EDGES.test("26: n 1 alone", "make 000 000, cuts 0, left 10 1 = 1, left 9 1 = 2");
        EDGES.test("26: from THING 0 on", "make 000 400 000, cuts 0, cuts 1, left 10 1 = 2, "
            + "left 10 2 = 2, left 10 3 = 1");
        EDGES.test("26: n 60", "make 000 400 000, cuts 0, cuts 1, left 10 60 = 1");
        EDGES.test("26: (none if all are BROKEN)", "make 000 000, cuts 0, left 10 2 = 0, "
            + "left 10 3 = 0, left 10 60 = 0");
        EDGES.test("26: all BROKEN at first", "make 000, drops 0 10, left 60 0 = 0, "
            + "left 60 60 = 0");
        EDGES.test("26: no THINGS", "left 1 0 = 0, left 60 60 = 0");
        EDGES.test("26: BROKEN ones take no DAY", "make 000 400 000, cuts 0, cuts 1, drops 0 10, "
            + "left 10 1 = 2, left 10 2 = 1");
        EDGES.test("26: those broken by another one take no DAY", "make 400 300 300, cuts 1, "
            + "left 4 1 = 2, left 4 2 = 1");
        EDGES.test("26: -4 (v below 1, n below 0), -6 60 either", "left 0 0 = -4, left 1 -1 = -4, "
            + "left 61 0 = -6, left 1 61 = -6, left 61 -1 = -4, left 0 61 = -4");
    }

    private static void chance() {
        EDGES.test("27: n 0: sure, 1 over 1", "make 000, chance 0 0 60 0 20 0 = 1, "
            + "chance 0 0 60 0 20 1 = 1");
        EDGES.test("27: n 1, t 2", "make 000, chance 0 0 10 1 2 0 = 1, chance 0 0 10 1 2 1 = 2");
        EDGES.test("27: n 8, t 2", "make 000, chance 0 0 10 8 2 0 = 1, chance 0 0 10 8 2 1 = 256");
        EDGES.test("27: n 8, t 20", "make 000, chance 0 0 60 8 20 0 = 16983563041, "
            + "chance 0 0 60 8 20 1 = 25600000000");
        EDGES.test("27: t 3", "make 000, chance 0 0 10 2 3 0 = 4, chance 0 0 10 2 3 1 = 9");
        EDGES.test("27: lowest terms", "make 000, chance 0 0 9 8 20 0 = 1, "
            + "chance 0 0 9 8 20 1 = 1");
        EDGES.test("27: 0 as 0 over 1", "make 400 000, drops 1 10, chance 0 1 1 8 20 0 = 0, "
            + "chance 0 1 1 8 20 1 = 1, chance 1 1 1 0 2 0 = 0, chance 1 1 1 0 2 1 = 1");
        EDGES.test("27: the one is BROKEN: nothing comes of it", "make 000 000, drops 0 10, "
            + "chance 0 1 60 8 2 0 = 1, chance 0 1 60 8 2 1 = 1");
        EDGES.test("27: another one", "make 400 000, chance 0 1 11 2 2 0 = 1, "
            + "chance 0 1 11 2 2 1 = 4, chance 0 1 10 2 2 1 = 1");
        EDGES.test("27: -4 each", "make 000, chance 0 0 0 0 2 0 = 4000000000000000004, "
            + "chance 0 0 1 -1 2 0 = 4000000000000000004, "
            + "chance 0 0 1 0 1 0 = 4000000000000000004, count 14 = 3");
        EDGES.test("27: -6 each", "make 000, chance 0 0 61 0 2 0 = 4000000000000000006, "
            + "chance 0 0 1 9 2 0 = 4000000000000000006, "
            + "chance 0 0 1 0 21 0 = 4000000000000000006, count 16 = 3");
        EDGES.test("27: -1, -2", "make 000, chance 1 0 1 0 2 0 = 4000000000000000001, "
            + "chance 0 -1 1 0 2 0 = 4000000000000000001, "
            + "chance 0 0 1 0 2 2 = 4000000000000000002, "
            + "chance 0 0 1 0 2 -1 = 4000000000000000002");
        EDGES.test("27: all -4 ahead of all -6", "make 000, "
            + "chance 0 0 61 9 1 0 = 4000000000000000004, "
            + "chance 0 0 61 -1 21 0 = 4000000000000000004, "
            + "chance 0 0 0 9 21 0 = 4000000000000000004, count 16 = 0");
    }

    public static void main(String[] args) {
        gets();
        leastBlows();
        harm();
        who();
        worst();
        order();
        woman();
        chance();
        EDGES.end();
    }
}
