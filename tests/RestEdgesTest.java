/**
 * The edges of promises 28 to 48: who hears alike, stretches of THE WIRE, codes, mending, the ROW,
 * years by lot, the image, what is counted. Each test has its sentence. A THING of kind 4, figure
 * 0 (a BELL, LOSS 1, STANDS 99) serves where a BLOW has to pass; kind 3, figure 0 is a SAUCER that
 * a BLOW 3 breaks; kind 0, figure 0 a THING of LOSS 1 that a BLOW 10 breaks.
 */
public final class RestEdgesTest {
    private static final Edges EDGES = new Edges("Promises 28 to 48");
    private static final String SIX = "make 003 127 211 329 445 552, ";
    private static final String EIGHT_BELLS = "times 8 thing 4 0 0, ";
    /** Six BELLS of LOSS 6 and a JUG that STANDS 24 behind them. */
    private static final String FAR = "make 490 490 490 490 490 490 290, ";

    private static void alike() {
        EDGES.test("28: -9 no THINGS", "twins 5 = -9, count 11 = 0");
        EDGES.test("28: -9 one THING", "make 000, twins 5 = -9");
        EDGES.test("28: two THINGS", "make 000 000, twins 5 = 1");
        EDGES.test("28: the two that hear most alike", "make 490 490 400 400, twins 5 = 23");
        EDGES.test("28: the last two of eight (10 the lesser and the other)",
            "times 6 thing 4 0 0, make 000 000, drops 6 10, drops 7 10, twins 1 = 67, "
            + "changes 6 7, twins 1 = 67");
        EDGES.test("28: alike by this BLOW as all is, not by one before", "make 090 090 400, "
            + "twins 5 = 12, cuts 1, twins 5 = 1");
        EDGES.test("28: -9, where another answer was", "make 400, centre 9 1 = 1, twins 9 = -9");
        EDGES.test("28: of several the first", EIGHT_BELLS + "twins 1 = 1");
        EDGES.test("28: of several the first, all BROKEN", "make 000 000 000, drops 0 10, "
            + "drops 1 10, drops 2 10, twins 60 = 1");
        EDGES.test("29: no THINGS", "hum 60 0 = 0, hum 60 1 = -9");
        EDGES.test("29: one THING", "make 400, hum 60 0 = 60, hum 60 1 = 0");
        EDGES.test("29: at each by itself", "make 400 400, hum 60 0 = 238, hum 1 0 = 2");
        EDGES.test("29: all BROKEN", "make 000 000, drops 0 10, drops 1 10, hum 60 0 = 0, "
            + "hum 60 1 = 0");
        EDGES.test("29: QUIET, not the first", "make 400 090, hum 5 1 = 0, changes 0 1, "
            + "hum 5 0 = 14, make 000, cuts 1, hum 5 1 = 0, drops 2 10, hum 5 1 = 2");
        EDGES.test("29: QUIET, of several the least", "make 400 400, cuts 0, hum 9 1 = 0");
        EDGES.test("29: QUIET, where another answer was", "make 000 000, drops 0 10, drops 1 10, "
            + "twins 60 = 1, mends 0, mends 1, hum 9 1 = 0");
        EDGES.test("30: one and the same", EIGHT_BELLS + "apart 3 3 = 0, apart 7 7 = 0");
        EDGES.test("30: the ends", EIGHT_BELLS + "apart 0 7 = 7, apart 7 0 = 7, apart 6 7 = 1");
        EDGES.test("30: on THE WIRE", EIGHT_BELLS + "changes 0 3, apart 0 7 = 4, apart 3 7 = 7");
        EDGES.test("30: CUT or BROKEN between", "make 400 000 400, cuts 0, drops 1 10, "
            + "apart 0 2 = 2");
        EDGES.test("31: no THINGS", "heaps = 0");
        EDGES.test("31: one THING", "make 000, heaps = 1, drops 0 10, heaps = 0");
        EDGES.test("31: one stretch", EIGHT_BELLS + "heaps = 1");
        EDGES.test("31: all CUT", EIGHT_BELLS + "cuts 0, cuts 1, cuts 2, cuts 3, cuts 4, cuts 5, "
            + "cuts 6, heaps = 8, cuts 6, heaps = 7");
        EDGES.test("31: BROKEN THINGS (these in none): first and last", "make 000 400 000, "
            + "drops 0 10, heaps = 1, drops 2 10, heaps = 1");
        EDGES.test("31: a BROKEN one between", "make 400 000 400, drops 1 10, heaps = 2");
        EDGES.test("31: two BROKEN side by side", "make 400 000 000 400, cuts 1, drops 1 10, "
            + "drops 2 10, cuts 1, heaps = 2");
        EDGES.test("31: a CUT LINK at a BROKEN one parts no more", "make 400 000 400, drops 1 10, "
            + "cuts 0, heaps = 2, cuts 1, heaps = 2");
        EDGES.test("31: CUT by itself, between two that are not BROKEN", "make 400 400, cuts 0, "
            + "heaps = 2");
        EDGES.test("31: by PLACES", "make 000 400 400, changes 0 1, drops 0 10, heaps = 2");
    }

    private static void codes() {
        EDGES.test("32: (or itself), BLOWS (1 .. 60)", "make 400, codes 0 0 = 60");
        EDGES.test("32: gets some, 0 is none", "make 400 400, codes 0 1 = 59");
        EDGES.test("32: by which nothing is BROKEN: itself", "make 000, codes 0 0 = 9");
        EDGES.test("32: by which nothing is BROKEN: another one", "make 400 000 400, "
            + "codes 0 0 = 10, codes 0 2 = 8");
        EDGES.test("32: none, CUT", "make 400 400, cuts 0, codes 0 1 = 0");
        EDGES.test("32: none, BROKEN", "make 400 000, drops 1 10, codes 0 1 = 0, codes 1 0 = 0, "
            + "codes 1 1 = 0, codes 0 0 = 60");
        EDGES.test("32: one alone", "make 000 490 400, cuts 1, codes 0 0 = 9, cuts 1, "
            + "codes 0 2 = 2");
        EDGES.test("33: a third one getting none", "make 400 400 400, secret 0 1 2 = 1, "
            + "secret 1 0 2 = 0, secret 0 0 1 = 1, secret 0 0 2 = 2");
        EDGES.test("33: the third one is out of reach", "make 400 400 400, cuts 1, "
            + "secret 0 1 2 = 59, secret 0 0 2 = 60");
        EDGES.test("33: the third one is BROKEN", "make 400 400 000, drops 2 10, "
            + "secret 0 1 2 = 59");
        EDGES.test("33: none, the third one is between", "make 400 400 400, secret 0 2 1 = 0");
        EDGES.test("33: nothing is BROKEN, the third one neither", "make 000 400 400, cuts 1, "
            + "secret 0 1 2 = 8, secret 0 0 2 = 9");
        EDGES.test("33: -3 the third is the other", "make 400 400, secret 0 1 1 = -3");
        EDGES.test("33: -3 the third is the one", "make 400 400, secret 0 1 0 = -3, "
            + "secret 0 0 0 = -3");
        EDGES.test("33: -1 any, ahead of -3", "make 400 400, secret 2 1 1 = -1, "
            + "secret 0 2 2 = -1, secret 0 1 2 = -1, secret 0 0 -1 = -1, count 13 = 0");
        EDGES.test("34: the greatest BLOW (0 .. 60): 60, none breaks anything", "make 400 400, "
            + "tough 0 = 60");
        EDGES.test("34: 59", FAR + "tough 0 = 59, tough 1 = 53");
        EDGES.test("34: the least there is", "make 100 300, tough 0 = 2, tough 1 = 2");
        EDGES.test("34: at a BROKEN one none breaks anything: 60", "make 000 300, drops 0 10, "
            + "tough 0 = 60");
        EDGES.test("34: anything, not itself alone", "make 400 000, tough 0 = 10, tough 1 = 9");
        EDGES.test("35: -9 no THINGS", "centre 60 0 = -9, centre 60 1 = -9");
        EDGES.test("35: -9 all BROKEN", "make 000, drops 0 10, centre 60 0 = -9, centre 60 1 = -9");
        EDGES.test("35: -9, where another answer was", "make 000, centre 60 0 = 0, drops 0 10, "
            + "centre 60 0 = -9, centre 60 1 = -9");
        EDGES.test("35: not BROKEN", "make 000 400, drops 0 10, centre 60 0 = 1, centre 60 1 = 1");
        EDGES.test("35: of several the least", EIGHT_BELLS + "centre 1 0 = 0, centre 1 1 = 1, "
            + "centre 60 0 = 0, centre 60 1 = 8");
        EDGES.test("35: most, not the least", "make 400 400 400, centre 2 0 = 1, centre 2 1 = 3");
    }

    private static void best() {
        EDGES.test("36: -9 none is BROKEN", "make 400 400, bestMend 0 60 = -9");
        EDGES.test("36: -9 as many as now", "make 400 000, cuts 0, drops 1 10, bestMend 0 60 = -9");
        EDGES.test("36: more than now", "make 400 000, drops 1 10, bestMend 0 1 = -9, "
            + "bestMend 0 2 = 1");
        EDGES.test("36: the one itself is BROKEN", "make 000 400, drops 0 10, bestMend 0 1 = 0, "
            + "bestMend 1 1 = -9");
        EDGES.test("36: of several the least", "make 300 400 300, drops 1 4, bestMend 1 2 = 0");
        EDGES.test("36: most, not the least", "make 300 400 300 400, drops 1 4, bestMend 1 3 = 2, "
            + "count 2 = 5");
        EDGES.test("36: mended it may break again", "make 400 300, drops 0 60, bestMend 0 60 = 1");
        EDGES.test("36: one alone is mended at a time", "make 400 000 000, cuts 1, drops 2 10, "
            + "drops 1 10, cuts 1, bestMend 0 60 = 1, bestMend 2 60 = 2, bestMend 1 60 = 1");
        EDGES.test("37: (0 .. 9): 0, of several the least", "make 050 400, bestFigure 0 0 60 = 0, "
            + "bestFigure 1 0 60 = 0, thingOf 0 1 = 5");
        EDGES.test("37: (0 .. 9): 9", "make 000 400, bestFigure 0 0 18 = 9, "
            + "bestFigure 0 0 19 = 0, thingOf 0 1 = 0");
        EDGES.test("37: one between", "make 090 400, bestFigure 0 0 10 = 1, bestFigure 0 0 9 = 0, "
            + "bestFigure 0 0 17 = 8");
        EDGES.test("37: of a BLOW at another one", "make 400 000 400, bestFigure 1 0 19 = 9, "
            + "bestFigure 1 0 20 = 0, bestFigure 1 0 3 = 0");
        EDGES.test("37: a BLOW at a BROKEN one", "make 090 400, drops 0 60, "
            + "bestFigure 0 0 10 = 0, bestFigure 1 0 60 = 0");
        EDGES.test("38: no THINGS", "domino 60 = 0");
        EDGES.test("38: none", "make 000 400, domino 9 = 0, domino 1 = 0");
        EDGES.test("38: all", "times 8 thing 0 0 0, domino 10 = 8, count 2 = 0");
        EDGES.test("38: how many are BROKEN behind it (all)", "make 000 400 000, drops 0 10, "
            + "domino 1 = 1, domino 10 = 2");
        EDGES.test("38: who is BROKEN then is not", "make 400 300 400, domino 4 = 1, "
            + "domino 60 = 1");
        EDGES.test("38: once each", "make 300, domino 2 = 0, domino 3 = 1");
        EDGES.test("39: -9 no THINGS", "longest 0 = -9, longest 1 = -9");
        EDGES.test("39: -9 one THING", "make 009, longest 0 = -9, longest 1 = -9");
        EDGES.test("39: no way at all: 0", "make 005 005 005, longest 0 = 0, longest 1 = 0");
        EDGES.test("39: -9 and 0, where another answer was", EIGHT_BELLS + "centre 60 1 = 8, "
            + "longest 1 = 0, longest 0 = 0");
        EDGES.test("39: the last LINK of eight", "make 000 000 000 000 000 000 000 009, "
            + "longest 0 = 6, longest 1 = 9");
        EDGES.test("39: of several the least", "make 000 009 000, longest 0 = 0, longest 1 = 9");
        EDGES.test("39: CUT or not", "make 000 001 009, cuts 1, longest 0 = 1, longest 1 = 8");
        EDGES.test("39: farther down", "make 009 008 000, longest 0 = 1, longest 1 = 8");
        EDGES.test("39: by PLACES, BROKEN too", "make 000 009 005, changes 1 2, drops 1 60, "
            + "longest 0 = 0, longest 1 = 5");
        EDGES.test("40: no THINGS", "spared 60 = 0");
        EDGES.test("40: all of eight", EIGHT_BELLS + "spared 60 = 255");
        EDGES.test("40: none, all BROKEN", "make 300 300, drops 0 3, drops 1 3, spared 1 = 0");
        EDGES.test("40: by passing", "make 400 300, spared 4 = 1, spared 3 = 3, cuts 0, "
            + "spared 60 = 3");
        EDGES.test("40: at another one, not at itself", "make 300, spared 60 = 1");
        EDGES.test("40: from both sides", "make 300 400 300, spared 4 = 2, spared 3 = 7");
        EDGES.test("40: not BROKEN", "make 000 000, drops 0 10, spared 9 = 2, drops 1 10, "
            + "spared 9 = 0");
        EDGES.test("41: no THINGS", "mutual 60 = 0");
        EDGES.test("41: one THING", "make 400, mutual 60 = 0");
        EDGES.test("41: all twos of eight", EIGHT_BELLS + "mutual 60 = 28, mutual 1 = 0, "
            + "mutual 2 = 7");
        EDGES.test("41: both, not the first alone", "make 400 490, mutual 6 = 0, mutual 7 = 1");
        EDGES.test("41: both, not the other alone", "make 490 400, mutual 6 = 0, mutual 7 = 1");
        EDGES.test("41: the BROKEN get none", "make 400 000 400, drops 1 10, mutual 60 = 0");
    }

    private static void row() {
        EDGES.test("42: how many", "row 5 = 1, row 5 = 2, count 6 = 2");
        EDGES.test("42: -4", "row -1 = -4, row least = -4, row 0 = 1, count 6 = 1");
        EDGES.test("42: -6 99", "row 100 = -6, row greatest = -6, row 99 = 1, count 6 = 1");
        EDGES.test("42: -6 12, the last that is taken", "times 11 row 0, row 0 = 12, "
            + "count 6 = 12, count 16 = 0");
        EDGES.test("42: -6 12, the first that is not", "times 12 row 0, row 0 = -6, row 0 = -6, "
            + "count 6 = 12, count 16 = 2");
        EDGES.test("42: with 12, -4 goes ahead", "times 12 row 0, row -1 = -4, row 100 = -6");
        EDGES.test("42: more than THINGS are taken", "row 0 = 1, make 000, row 0 = 2");
        EDGES.test("43: no ROW: -9", "judge = -9, make 000, judge = -9, count 11 = 0");
        EDGES.test("43: all are so: -9, the ROW has none then", "make 000 000, numbers 0 1, "
            + "judge = -9, count 6 = 0, row 5 = 1");
        EDGES.test("43: as far as it tells", "make 000 000, numbers 0, judge = -9");
        EDGES.test("43: the first that is not so: 0", "make 000 000, numbers 1 0, judge = 0, "
            + "count 6 = 0");
        EDGES.test("43: the last is not so", EIGHT_BELLS + "numbers 0 1 2 3 4 5 6 0, judge = 7, "
            + "count 6 = 0");
        EDGES.test("43: no such PLACE, too", "make 000 000, numbers 0 1 2, judge = 2, count 6 = 0");
        EDGES.test("43: no such PLACE, no THINGS", "numbers 0, judge = 0, count 6 = 0");
        EDGES.test("43: 12 numbers", EIGHT_BELLS + "numbers 0 1 2 3 4 5 6 7 8 9 10 11, judge = 8, "
            + "count 6 = 0, row 0 = 1");
        EDGES.test("43: who is in PLACES", "make 000 000 000, changes 0 2, numbers 2 1 0, "
            + "judge = -9, numbers 0 1 2, judge = 0");
        EDGES.test("43: the ROW is no longer there", "make 000, numbers 5, judge = 0, judge = -9");
        EDGES.test("44: how many it had: none", "clear = 0, clear = 0");
        EDGES.test("44: how many it had: 12", "times 12 row 7, clear = 12, count 6 = 0, "
            + "clear = 0, row 0 = 1, count 16 = 0");
    }

    private static void lots() {
        EDGES.test("45: 0 without THINGS", "lots 1 1 0 = 0, lots 20 1 1 = 0");
        EDGES.test("45: n 1", SIX + "lots 1 1 0 = 4, lots 1 1 1 = 52");
        EDGES.test("45: n 20", SIX + "lots 20 1 0 = 69, lots 20 1 1 = 858");
        EDGES.test("45: -4 below 1", SIX + "lots 0 1 0 = -4, lots -1 1 0 = -4, "
            + "lots least 1 0 = -4");
        EDGES.test("45: -6 20", SIX + "lots 21 1 0 = -6, lots greatest 1 0 = -6");
        EDGES.test("45: -2", SIX + "lots 1 1 2 = -2, lots 1 1 -1 = -2, lots 0 1 2 = -4, "
            + "lots 21 1 2 = -6");
        EDGES.test("45: seed 0", SIX + "lots 1 0 0 = 2, lots 1 0 1 = 27, lots 20 0 1 = 837");
        EDGES.test("45: seed -1", SIX + "lots 1 -1 0 = 4, lots 1 -1 1 = 56, lots 20 -1 1 = 808");
        EDGES.test("45: the greatest seed: an int, wrapping", SIX + "lots 1 greatest 0 = 4, "
            + "lots 1 greatest 1 = 56, lots 20 greatest 0 = 65, lots 20 greatest 1 = 808");
        EDGES.test("45: the least seed: an int, wrapping", SIX + "lots 1 least 0 = 2, "
            + "lots 1 least 1 = 27, lots 20 least 0 = 73, lots 20 least 1 = 837");
        EDGES.test("45: z without its sign's bit", SIX + "lots 20 -987654321 0 = 59, "
            + "lots 20 -987654321 1 = 762, lots 20 123456789 0 = 63, lots 20 123456789 1 = 906");
        EDGES.test("45: each from now: a THING is whole each year", "make 000, lots 20 0 0 = 20, "
            + "lots 20 1 0 = 20, lots 20 0 1 = 206, lots 20 1 1 = 200");
        EDGES.test("45: from now: the BROKEN are so each year", SIX + "drops 4 20, "
            + "lots 3 1 0 = 5, lots 3 1 1 = 44, lots 3 0 0 = 5, lots 3 0 1 = 48");
        EDGES.test("45: a BROKEN one: nothing", "make 000, drops 0 10, lots 20 7 0 = 0, "
            + "lots 20 7 1 = 0");
        EDGES.test("45: a DRAW below 1 is 0", "make 000, lots 1 1 0 = 1, lots 1 1 1 = 14, "
            + "lots 1 0 1 = 9, lots 1 greatest 1 = 15");
        EDGES.test("45: it is in mind", SIX + "lots 20 1 0, count 2 = 0, count 1 = 0, "
            + "lots 20 1 0 = 69, lots 1 1 0 = 4");
    }

    private static void image() {
        EDGES.test("46: THE IMAGE of no THINGS", "image = 0, make 000 000, drops 0 10, cuts 0, "
            + "restore = 0, count 0 = 0, count 1 = 0, count 2 = 0, count 3 = 0, place 0 0 = -1, "
            + "heaps = 0, thing 0 0 0 = 0, thingOf 0 3 = 0");
        EDGES.test("46: DAY", "make 400, drops 0 1, drops 0 1, image = 2, drops 0 1, restore = 2, "
            + "count 1 = 2");
        EDGES.test("46: the later one", "make 400, image = 0, drops 0 1, image = 1, drops 0 1, "
            + "restore = 1");
        EDGES.test("46: of eight THINGS", EIGHT_BELLS + "changes 0 7, cuts 6, image, changes 1 6, "
            + "cuts 6, restore = 0, place 0 0 = 7, place 1 0 = 1, count 3 = 64, count 0 = 8");
        EDGES.test("47: -3 there is none", "restore = -3, make 000, restore = -3, count 13 = 2, "
            + "count 0 = 1");
        EDGES.test("47: THINGS with KIND, FIGURE, FARM", "make 000, image, make 599, restore, "
            + "thing 4 3 2 = 1, thingOf 1 0 = 4, thingOf 1 1 = 3, thingOf 1 2 = 2");
        EDGES.test("47: BROKEN", "make 000 000, drops 0 10, image, mends 0, drops 1 10, restore, "
            + "count 2 = 1, thingOf 0 3 = 1, thingOf 1 3 = 0");
        EDGES.test("47: THE WIRE", "make 000 000 000, changes 0 2, image, changes 0 1, restore, "
            + "place 0 0 = 2, place 1 0 = 1, place 2 0 = 0, thingOf 2 6 = 0");
        EDGES.test("47: CUT", "make 000 000 000, cuts 0, image, cuts 0, cuts 1, restore, "
            + "count 3 = 1");
        EDGES.test("47: THE IMAGE stays: all but it", "make 400, image, drops 0 1, restore = 0, "
            + "drops 0 1, restore = 0, count 1 = 0");
        EDGES.test("47: letters stay", "make 000 000, letters c0, image, letters ;, restore, "
            + "count 5 = 3, valley = 1");
        EDGES.test("47: the ROW stays", "make 000, numbers 1, image, numbers 2, restore, "
            + "count 6 = 2, clear, restore, count 6 = 0");
        EDGES.test("47: REFUSALS stay", "image, tap 0 = -1, restore, count 11 = 1");
        EDGES.test("47: a VALLEY that came is gone", "image, tell t000;t000;c0;d010; = 4, "
            + "restore = 0, count 0 = 0, tell c0; = -2000");
        EDGES.test("47: THE IMAGE is as it was taken", "make 300, image, drops 0 3, mends 0, "
            + "drops 0 3, back, back, back, tell d003; = 1, restore = 0, count 2 = 0");
        EDGES.test("48: 0 THINGS: eight", EIGHT_BELLS + "count 0 = 8");
        EDGES.test("48: 2 BROKEN ones: all of eight", "times 8 thing 0 0 0, drops 0 10, "
            + "drops 1 10, drops 2 10, drops 3 10, drops 4 10, drops 5 10, drops 6 10, "
            + "drops 7 10, count 2 = 255, count 1 = 8");
        EDGES.test("48: 3 CUT LINKS: all of seven", EIGHT_BELLS + "cuts 0, cuts 1, cuts 2, "
            + "cuts 3, cuts 4, cuts 5, cuts 6, count 3 = 127");
        EDGES.test("48: 4 all LOSS: none, one, eight, BROKEN too", "count 4 = 0, make 090, "
            + "count 4 = 10, drops 0 60, count 4 = 10, times 7 thing 2 9 0, count 4 = 94");
        EDGES.test("48: 5 letters: 96", "times 96 feed 0, count 5 = 96, valley, count 5 = 0");
        EDGES.test("48: 6 in the ROW: 12", "times 12 row 0, count 6 = 12");
        EDGES.test("48: 7 what can be TAKEN BACK: 8", "make 400, times 9 drops 0 1, count 7 = 8");
        for (String what : "-1 8 9 10 17 18 100 least greatest".split(" ")) {
            EDGES.test("48: -9 for another what: " + what, SIX + "count " + what + " = -9, "
                + "count 11 = 0, count 12 = 0");
        }
        EDGES.test("48: 11 is of -1", "tap 0 = -1, count 11 = 1, count 12 = 0");
        EDGES.test("48: 12 is of -2", "longest 2 = -2, count 12 = 1, count 11 = 0, count 13 = 0");
        EDGES.test("48: 13 is of -3", "back = -3, count 13 = 1, count 12 = 0, count 14 = 0");
        EDGES.test("48: 14 is of -4", "lasts 0 = -4, count 14 = 1, count 13 = 0, count 15 = 0");
        EDGES.test("48: 15 is of -5, there is none", "lasts 0, lasts 61, count 15 = 0");
        EDGES.test("48: 16 is of -6", "lasts 61 = -6, count 16 = 1, count 14 = 0, count 15 = 0");
    }

    public static void main(String[] args) {
        alike();
        codes();
        best();
        row();
        lots();
        image();
        EDGES.end();
    }
}
