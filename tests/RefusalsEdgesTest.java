import java.util.ArrayList;
import java.util.List;
import java.util.function.Supplier;

/**
 * The line on REFUSALS, for each call: each number that is refused (the first beyond the edge on
 * both sides, and the ends of an int), what it answers and that nothing changes but the count of
 * that REFUSAL; the last numbers that are taken; of each two refusals that fit one call, the
 * first in the document's order. Each row of calls is told in that order.
 */
public final class RefusalsEdgesTest {
    private static final int NOBODY = -1;
    private static final int OTHER = -2;
    private static final int STATE = -3;
    private static final int BELOW = -4;
    private static final int ROOM = -6;

    /** Six THINGS, 3 and 5 BROKEN, LINK 1 CUT, two changed, letters, a ROW, an image, 3 back. */
    private static final String RICH = "make 003 127 211 329 445 552, image, drops 4 20, cuts 1, "
        + "changes 0 1, letters c0;, numbers 1 0";
    private static final String SEVEN = "make 003 127 211 329 445 552 000, image, drops 4 20, "
        + "letters c0;, numbers 0 1";
    private static final String EIGHT = "make 003 127 211 329 445 552 000 100, image, drops 4 20, "
        + "letters c0;, numbers 0 1";
    private static final String BARE = "letters t000;, numbers 0";
    private static final String LONG_ROW = RICH + ", times 5 row 0";
    private static final String FULL_ROW = RICH + ", times 10 row 3";
    private static final String FULL_LETTERS = RICH + ", times 31 letters c0;";
    private static final String NONE_REFUSED = ", count 11 = 0, count 12 = 0, count 13 = 0, "
        + "count 14 = 0, count 15 = 0, count 16 = 0";

    private static final Edges EDGES = new Edges("REFUSALS");

    /** A number that makes a call refuse. */
    private record Spoiler(int refusal, int argument, String value) {
    }

    private final String name;
    private final String[] good;
    private final boolean changes;
    private final List<Spoiler> spoilers = new ArrayList<>();
    private final Supplier<Edges.Subject> rich = EDGES.behind(RICH);

    private RefusalsEdgesTest(String name, String good, boolean changes) {
        this.name = name;
        this.good = good.isEmpty() ? new String[0] : good.split(" ");
        this.changes = changes;
    }

    /** A call that changes nothing, and arguments that are taken. */
    private static RefusalsEdgesTest asks(String name, String good) {
        RefusalsEdgesTest row = new RefusalsEdgesTest(name, good, false);
        row.taken(row.callWith());
        return row;
    }

    /** A call that changes something, and arguments that are taken. */
    private static RefusalsEdgesTest does(String name, String good) {
        RefusalsEdgesTest row = new RefusalsEdgesTest(name, good, true);
        row.taken(row.callWith());
        return row;
    }

    private String callWith(Spoiler... all) {
        String[] told = good.clone();
        for (Spoiler one : all) {
            told[one.argument] = one.value;
        }
        return name + " " + String.join(" ", told);
    }

    private void taken(String call) {
        if (changes) {
            EDGES.test(name + ", taken", RICH + ", " + call + NONE_REFUSED);
        } else {
            EDGES.answered(name + ", taken", rich, call);
        }
    }

    private RefusalsEdgesTest takes(int argument, String values) {
        for (String value : values.split(" ")) {
            taken(callWith(new Spoiler(0, argument, value)));
        }
        return this;
    }

    private RefusalsEdgesTest refuses(int refusal, int argument, String values) {
        for (String value : values.split(" ")) {
            Spoiler spoiler = new Spoiler(refusal, argument, value);
            EDGES.refused(name + ", refused", rich, callWith(spoiler), refusal);
            spoilers.add(spoiler);
        }
        return this;
    }

    private RefusalsEdgesTest nobody(int argument) {
        return refuses(NOBODY, argument, "-1 6 least greatest");
    }

    private RefusalsEdgesTest what(int argument, int last) {
        return refuses(OTHER, argument, "-1 " + (last + 1) + " least greatest")
            .takes(argument, "0 " + last);
    }

    private RefusalsEdgesTest below(int argument, int least) {
        return refuses(BELOW, argument, (least - 1) + " least").takes(argument, "" + least);
    }

    private RefusalsEdgesTest above(int argument, int greatest) {
        return refuses(ROOM, argument, (greatest + 1) + " greatest").takes(argument, "" + greatest);
    }

    private RefusalsEdgesTest strength(int argument) {
        return below(argument, 1).above(argument, 60);
    }

    /** Of each two on unlike arguments the one told earlier is answered. */
    private RefusalsEdgesTest inOrder() {
        for (int one = 0; one < spoilers.size(); one++) {
            for (int other = one + 1; other < spoilers.size(); other++) {
                Spoiler ahead = spoilers.get(one);
                Spoiler behind = spoilers.get(other);
                if (ahead.argument != behind.argument && ahead.refusal != behind.refusal) {
                    EDGES.refused(name + ", the first that fits", rich, callWith(ahead, behind),
                        ahead.refusal);
                }
            }
        }
        return this;
    }

    /** Behind a script the call is refused; all that is told so far goes ahead of that. */
    private void andLastBehind(String script, int refusal) {
        Supplier<Edges.Subject> maker = EDGES.behind(script);
        EDGES.refused(name + ", refused", maker, callWith(), refusal);
        for (Spoiler spoiler : spoilers) {
            EDGES.refused(name + ", the first that fits", maker, callWith(spoiler),
                spoiler.refusal);
        }
    }

    private static void wireCalls() {
        does("feed", "5").below(0, 0).above(0, 255).andLastBehind(FULL_LETTERS, ROOM);
        asks("thingOf", "0 0").nobody(0).takes(0, "0 5").what(1, 6).inOrder();
        asks("place", "0 0").nobody(0).takes(0, "0 5").what(1, 1).inOrder();
        does("thing", "0 0 0").what(0, 5).below(1, 0).below(2, 0).above(1, 9).above(2, 9)
            .inOrder().andLastBehind(EIGHT, ROOM);
        does("drops", "0 5").nobody(0).takes(0, "0 4").strength(1).refuses(STATE, 0, "3 5")
            .inOrder();
        does("mends", "3").nobody(0).takes(0, "3 5").refuses(STATE, 0, "0 1 2 4");
        does("cuts", "0").refuses(NOBODY, 0, "-1 5 6 least greatest").takes(0, "0 4");
        does("changes", "0 5").nobody(0).nobody(1).takes(0, "0 4").takes(1, "1 5")
            .refuses(NOBODY, 1, "0").refuses(NOBODY, 0, "5");
        EDGES.refused("changes, one twice, none", EDGES.behind(RICH), "changes 6 6", NOBODY);
        EDGES.refused("changes, one twice, none", EDGES.behind(RICH), "changes -1 -1", NOBODY);
        does("back", "").andLastBehind(BARE, STATE);
    }

    private static void mindCalls() {
        asks("gets", "0 5 1 0").nobody(0).nobody(2).takes(0, "0 5").takes(2, "0 5").strength(1)
            .what(3, 1).inOrder();
        asks("blow", "0 5 0").nobody(0).takes(0, "0 5").strength(1).what(2, 4).inOrder();
        asks("reaches", "0 1").nobody(0).nobody(1).takes(0, "0 5").takes(1, "0 5");
        asks("breaks", "0 1").nobody(0).nobody(1).takes(0, "0 5").takes(1, "0 5");
        asks("harm", "0 0").nobody(0).takes(0, "0 5").what(1, 1).inOrder();
        asks("tap", "0").nobody(0).takes(0, "0 5");
        asks("who", "0").what(0, 2).andLastBehind(LONG_ROW, STATE);
        asks("whatKind", "0 5 1 0").nobody(0).nobody(2).takes(0, "0 5").takes(2, "0 5")
            .strength(1).what(3, 1).inOrder().andLastBehind(LONG_ROW, STATE);
        asks("worst", "5 0").strength(0).what(1, 1).inOrder();
        asks("bestCut", "5 0").strength(0).what(1, 1).inOrder();
        asks("order", "5 0").below(0, 1).below(1, -1).takes(1, "0 5 6 greatest").above(0, 60)
            .inOrder().andLastBehind(SEVEN, STATE);
        asks("walk", "0").below(0, -2).takes(0, "-1 5 6 greatest");
        asks("woman", "5 0").strength(0).what(1, 1).inOrder();
        asks("lasts", "5").strength(0);
        asks("left", "5 5").below(0, 1).below(1, 0).above(0, 60).above(1, 60).inOrder();
        asks("chance", "0 1 5 3 4 0").nobody(0).nobody(1).takes(0, "0 5").takes(1, "0 5")
            .below(2, 1).below(3, 0).below(4, 2).above(2, 60).above(3, 8).above(4, 20).what(5, 1)
            .inOrder();
    }

    private static void restCalls() {
        asks("twins", "5").strength(0);
        asks("hum", "5 0").strength(0).what(1, 1).inOrder();
        asks("apart", "0 1").nobody(0).nobody(1).takes(0, "0 5").takes(1, "0 5");
        asks("heaps", "");
        asks("codes", "0 1").nobody(0).nobody(1).takes(0, "0 5").takes(1, "0 5");
        asks("secret", "0 1 5").nobody(0).nobody(1).nobody(2).takes(0, "2 4").takes(1, "0 4")
            .takes(2, "2 3 4").refuses(STATE, 2, "0 1").inOrder();
        EDGES.refused("secret, the third is both", EDGES.behind(RICH), "secret 2 2 2", STATE);
        EDGES.refused("secret, none is a THING", EDGES.behind(RICH), "secret 6 6 6", NOBODY);
        EDGES.refused("secret, none is a THING", EDGES.behind(RICH), "secret -1 -1 -1", NOBODY);
        asks("tough", "0").nobody(0).takes(0, "0 5");
        asks("centre", "5 0").strength(0).what(1, 1).inOrder();
        asks("bestMend", "0 5").nobody(0).takes(0, "0 5").strength(1).inOrder();
        asks("bestFigure", "0 1 5").nobody(0).nobody(1).takes(0, "0 5").takes(1, "0 5")
            .strength(2).inOrder();
        asks("domino", "5").strength(0);
        asks("longest", "0").what(0, 1);
        asks("spared", "5").strength(0);
        asks("mutual", "5").strength(0);
        does("row", "5").below(0, 0).above(0, 99).andLastBehind(FULL_ROW, ROOM);
        does("judge", "");
        does("clear", "");
        asks("lots", "3 7 0").below(0, 1).above(0, 20).what(2, 1)
            .takes(1, "least -1 0 greatest").inOrder();
        does("image", "");
        does("restore", "").andLastBehind(BARE, STATE);
        asks("count", "0").takes(0, "-1 7 8 10 11 16 17 least greatest");
    }

    /** On a new object each THING, PLACE and LINK is none; questions about all have an answer. */
    private static void noThings() {
        Supplier<Edges.Subject> bare = EDGES.behind(BARE);
        String[] nobody = {"thingOf 0 0", "place 0 0", "drops 0 1", "mends 0", "cuts 0",
            "changes 0 1", "gets 0 1 0 0", "blow 0 1 0", "reaches 0 0", "breaks 0 0", "harm 0 0",
            "tap 0", "whatKind 0 1 0 0", "chance 0 0 1 0 2 0", "apart 0 0", "codes 0 0",
            "secret 0 0 0", "tough 0", "bestMend 0 1", "bestFigure 0 0 1"};
        for (String call : nobody) {
            EDGES.refused("no THINGS", bare, call, NOBODY);
        }
        String[] all = {"worst 60 0", "worst 60 1", "bestCut 60 0", "bestCut 60 1", "order 60 -1",
            "order 60 0", "walk -2", "walk -1", "walk 0", "woman 60 0", "woman 60 1", "lasts 60",
            "left 60 60", "twins 60", "hum 60 0", "hum 60 1", "heaps", "centre 60 0",
            "centre 60 1", "domino 60", "longest 0", "longest 1", "spared 60", "mutual 60",
            "lots 20 1 0", "lots 20 1 1"};
        for (String call : all) {
            EDGES.answered("no THINGS", bare, call);
        }
        EDGES.refused("no THINGS: more numbers than THINGS", bare, "who 0", STATE);
    }

    /** With all places full the last THING and PLACE are taken, and all questions answered. */
    private static void eightThings() {
        Supplier<Edges.Subject> full = EDGES.behind(EIGHT);
        String[] calls = {"thingOf 7 6", "place 7 0", "gets 7 60 7 1", "gets 0 60 7 0",
            "blow 7 60 3", "blow 7 60 4", "reaches 7 0", "breaks 0 7", "harm 7 0", "tap 7", "who 0",
            "who 2", "whatKind 7 60 7 0", "whatKind 7 60 7 1", "worst 60 1", "bestCut 60 0",
            "walk -2", "walk -1", "walk 7", "woman 60 0", "lasts 60", "left 60 60",
            "chance 7 7 60 8 20 0", "chance 0 7 60 8 20 1", "twins 60", "hum 60 0", "hum 60 1",
            "apart 7 0", "heaps", "codes 7 7", "secret 7 6 0", "tough 7", "centre 60 1",
            "bestMend 7 60", "bestFigure 7 7 60", "domino 60", "longest 0", "spared 60",
            "mutual 60", "lots 20 greatest 1", "count 4"};
        for (String call : calls) {
            EDGES.answered("all places full", full, call);
        }
        for (String call : new String[] {"thingOf 8 0", "place 8 0", "drops 8 1", "cuts 7",
            "changes 0 8", "tap 8", "apart 8 8"}) {
            EDGES.refused("all places full, no such one", full, call, NOBODY);
        }
    }

    /** The counts are told apart, and what answers -9 or a FAULT is no refusal. */
    private static void counts() {
        EDGES.test("REFUSALS -1 .. -6 are counted each by itself", "make 000, times 6 tap 1 = -1, "
            + "times 5 longest 2 = -2, times 4 back = -3, times 3 lasts 0 = -4, "
            + "times 2 lasts 61 = -6, count 11 = 6, count 12 = 5, count 13 = 4, count 14 = 3, "
            + "count 15 = 0, count 16 = 2");
        EDGES.test("chance() answers a long, and it is counted too",
            "chance 0 0 1 0 2 0 = 4000000000000000001, count 11 = 1");
        EDGES.test("a FAULT: nothing is counted", "tell c0; = -2000, tell c = -1001, tell = -1000"
            + NONE_REFUSED);
        EDGES.test("-9 is no refusal", "tap 0 = -1, make 000, tap 0 = -9, count 11 = 1, "
            + "lasts 9 = -9, judge = -9, count 17 = -9, count 11 = 1, count 12 = 0, count 13 = 0");
        EDGES.test("one call counts one refusal", "whatKind 0 0 0 2 = -1, count 11 = 1, "
            + "count 12 = 0, count 14 = 0");
        EDGES.test("REFUSALS stay with restore() and back()", "make 000, drops 0 1, image, "
            + "tap 1 = -1, restore = 1, count 11 = 1, drops 0 1, back = 0, count 11 = 1");
    }

    public static void main(String[] args) {
        wireCalls();
        mindCalls();
        restCalls();
        noThings();
        eightThings();
        counts();
        EDGES.end();
    }
}
