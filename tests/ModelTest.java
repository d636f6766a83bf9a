import java.math.BigInteger;
import java.util.ArrayList;
import java.util.Collections;
import java.util.HashSet;
import java.util.List;
import java.util.Map;
import java.util.Random;
import java.util.Set;
import java.util.TreeMap;
import java.util.TreeSet;
import java.util.regex.Matcher;
import java.util.regex.Pattern;

/**
 * Random runs of calls on fresh objects, each answer held against a second, slow program
 * written from the document alone (lists, maps, all orders, all subsets of days).
 */
public final class ModelTest {
    private static final int RUNS = 900;
    private static final int CALLS = 500;

    /** Thrown by the model where the document refuses. */
    private static final class Refused extends RuntimeException {
        private static final long serialVersionUID = 1L;
        final int number;

        Refused(int number) {
            super(null, null, false, false);
            this.number = number;
        }
    }

    private record Piece(int kind, int figure, int farm) {
        int loss() {
            return switch (kind) {
                case 0 -> 1 + figure;
                case 1 -> new Piece(0, figure, farm).loss() / 2;
                case 2 -> new Piece(0, figure, farm).loss() + 2;
                case 3 -> 1;
                case 4 -> new Piece(2, figure, farm).loss() / 2;
                default -> new Piece(1, figure, farm).loss() + 1;
            };
        }

        int stands() {
            return switch (kind) {
                case 0 -> 10 + figure;
                case 1 -> new Piece(0, figure, farm).stands() - 4;
                case 2 -> new Piece(0, figure, farm).stands() + 5;
                case 3 -> new Piece(1, figure, farm).stands() / 2;
                case 4 -> 99;
                default -> new Piece(1, figure, farm).stands() - figure;
            };
        }

        int jump(int blow) {
            return switch (kind) {
                case 0 -> blow / 2;
                case 1, 5 -> new Piece(0, figure, farm).jump(blow) + 1;
                case 2 -> blow / 3;
                case 3 -> 2 * new Piece(1, figure, farm).jump(blow);
                default -> 0;
            };
        }
    }

    private static final class State {
        List<Piece> pieces = new ArrayList<>();
        Set<Integer> broken = new TreeSet<>();
        List<Integer> wire = new ArrayList<>();
        Set<Integer> cut = new TreeSet<>();
        int day = 0;

        State copy() {
            State state = new State();
            state.pieces.addAll(pieces);
            state.broken.addAll(broken);
            state.wire.addAll(wire);
            state.cut.addAll(cut);
            state.day = day;
            return state;
        }

        int size() {
            return pieces.size();
        }

        boolean whole(int thing) {
            return !broken.contains(thing);
        }

        void turn(int link) {
            if (!cut.remove(link)) {
                cut.add(link);
            }
        }

        Hit hit(int thing, int blow) {
            Hit hit = new Hit(this);
            if (whole(thing)) {
                int start = wire.indexOf(thing);
                hit.pass(start, blow, 1);
                hit.pass(start, blow, -1);
            }
            return hit;
        }

        Hit drop(int thing, int blow) {
            Hit hit = hit(thing, blow);
            broken.addAll(hit.broken);
            day++;
            return hit;
        }

        int most(int v) {
            int most = 0;
            for (int s = 0; s < size(); s++) {
                most = Math.max(most, hit(s, v).broken.size());
            }
            return most;
        }
    }

    private static final class Hit {
        final State state;
        final Map<Integer, Integer> got = new TreeMap<>();
        final Set<Integer> broken = new TreeSet<>();

        Hit(State state) {
            this.state = state;
        }

        void pass(int place, int blow, int step) {
            int thing = state.wire.get(place);
            if (blow <= 0 || !state.whole(thing)) {
                return;
            }
            got.put(thing, blow);
            if (blow >= state.pieces.get(thing).stands()) {
                broken.add(thing);
                return;
            }
            int beyond = place + step;
            int link = step > 0 ? place : place - 1;
            if (beyond >= 0 && beyond < state.size() && !state.cut.contains(link)) {
                pass(beyond, blow - state.pieces.get(thing).loss(), step);
            }
        }

        int of(int thing) {
            return got.getOrDefault(thing, 0);
        }

        int jump(int thing) {
            return got.containsKey(thing) ? state.pieces.get(thing).jump(got.get(thing)) : 0;
        }

        int jumps() {
            int sum = 0;
            for (int thing : got.keySet()) {
                sum += jump(thing);
            }
            return sum;
        }
    }

    private static int bits(Iterable<Integer> numbers) {
        int bits = 0;
        for (int number : numbers) {
            bits += 1 << number;
        }
        return bits;
    }

    private static void permute(List<Integer> head, List<Integer> rest, List<List<Integer>> all) {
        if (rest.isEmpty()) {
            all.add(new ArrayList<>(head));
        }
        for (int i = 0; i < rest.size(); i++) {
            List<Integer> less = new ArrayList<>(rest);
            head.add(less.remove(i));
            permute(head, less, all);
            head.remove(head.size() - 1);
        }
    }

    private static final Map<Integer, List<List<Integer>>> ORDERS = new TreeMap<>();

    private static List<List<Integer>> orders(int size) {
        return ORDERS.computeIfAbsent(size, n -> {
            List<Integer> rest = new ArrayList<>();
            for (int i = 0; i < n; i++) {
                rest.add(i);
            }
            List<List<Integer>> all = new ArrayList<>();
            permute(new ArrayList<>(), rest, all);
            return all;
        });
    }

    /** The second program. Its calls go by name, with the arguments in an array. */
    private static final class Model {
        State s = new State();
        State image = null;
        List<State> past = new ArrayList<>();
        StringBuilder letters = new StringBuilder();
        List<Integer> row = new ArrayList<>();
        int[] refusals = new int[7];

        static void thingsIn(State s, int... numbers) {
            for (int number : numbers) {
                if (number < 0 || number >= s.size()) {
                    throw new Refused(-1);
                }
            }
        }

        static void range(int number, int least, int greatest) {
            if (number < least) {
                throw new Refused(-4);
            }
            if (number > greatest) {
                throw new Refused(-6);
            }
        }

        static void what(int what, int last) {
            if (what < 0 || what > last) {
                throw new Refused(-2);
            }
        }

        static void state(boolean asTold) {
            if (!asTold) {
                throw new Refused(-3);
            }
        }

        void keep() {
            past.add(s.copy());
            if (past.size() > 8) {
                past.remove(0);
            }
        }

        static int addThing(State s, int kind, int figure, int farm) {
            what(kind, 5);
            if (figure < 0 || farm < 0) {
                throw new Refused(-4);
            }
            if (figure > 9 || farm > 9 || s.size() == 8) {
                throw new Refused(-6);
            }
            s.pieces.add(new Piece(kind, figure, farm));
            s.wire.add(s.size() - 1);
            return s.size() - 1;
        }

        static void mayDrop(State s, int thing, int blow) {
            thingsIn(s, thing);
            range(blow, 1, 60);
            if (s.day == 999) {
                throw new Refused(-6);
            }
            state(s.whole(thing));
        }

        static void mayMend(State s, int thing) {
            thingsIn(s, thing);
            state(!s.whole(thing));
        }

        static void mayCut(State s, int link) {
            if (link < 0 || link > s.size() - 2) {
                throw new Refused(-1);
            }
        }

        static void mayChange(State s, int one, int other) {
            thingsIn(s, one, other);
            if (one == other) {
                throw new Refused(-1);
            }
        }

        private static final Pattern GRAMMAR =
            Pattern.compile("([td][0-9]{3};|[mc][0-9];|x[0-9]{2};)+");

        int valley() {
            String text = letters.toString();
            letters.setLength(0);
            for (int i = 0; i < text.length(); i++) {
                Matcher matcher = GRAMMAR.matcher(text.substring(0, i + 1));
                if (!matcher.matches() && !matcher.hitEnd()) {
                    return -1000 - i;
                }
            }
            if (!GRAMMAR.matcher(text).matches()) {
                return -1000 - text.length();
            }
            State trial = s.copy();
            int at = 0;
            String[] statements = text.split(";");
            for (String statement : statements) {
                try {
                    one(trial, statement);
                } catch (Refused refused) {
                    return -2000 - at;
                }
                at += statement.length() + 1;
            }
            s = trial;
            past.clear();
            return statements.length;
        }

        static void one(State s, String statement) {
            int[] d = statement.substring(1).chars().map(c -> c - '0').toArray();
            switch (statement.charAt(0)) {
                case 't' -> addThing(s, d[0], d[1], d[2]);
                case 'd' -> {
                    mayDrop(s, d[0], 10 * d[1] + d[2]);
                    s.drop(d[0], 10 * d[1] + d[2]);
                }
                case 'm' -> {
                    mayMend(s, d[0]);
                    s.broken.remove(d[0]);
                }
                case 'c' -> {
                    mayCut(s, d[0]);
                    s.turn(d[0]);
                }
                default -> {
                    mayChange(s, d[0], d[1]);
                    Collections.swap(s.wire, d[0], d[1]);
                }
            }
        }

        /** For each THING and BLOW that is so, 100 the THING and the BLOW, and a measure. */
        interface Measure {
            int of(int thing, Hit hit);
        }

        int[] leastOf(Measure measure) {
            int[] best = {-9, -9};
            for (int thing = 0; thing < s.size(); thing++) {
                for (int blow = 1; blow <= 60; blow++) {
                    int m = measure.of(thing, s.hit(thing, blow));
                    if (m >= 0 && (best[0] == -9 || m < best[1])) {
                        best = new int[] {100 * thing + blow, m};
                    }
                }
            }
            return best;
        }

        boolean rowIs(Hit hit) {
            for (int i = 0; i < row.size(); i++) {
                if (row.get(i) != Math.min(99, hit.jump(i))) {
                    return false;
                }
            }
            return true;
        }

        long call(String name, int[] a) {
            try {
                return answer(name, a);
            } catch (Refused refused) {
                refusals[-refused.number]++;
                return name.equals("chance")
                    ? 4000000000000000000L - refused.number : refused.number;
            }
        }

        long answer(String name, int[] a) {
            switch (name) {
                case "feed": {
                    range(a[0], 0, 255);
                    if (letters.length() == 96) {
                        throw new Refused(-6);
                    }
                    letters.append((char) a[0]);
                    return letters.length();
                }
                case "valley":
                    return valley();
                case "thingOf": {
                    thingsIn(s, a[0]);
                    what(a[1], 6);
                    Piece p = s.pieces.get(a[0]);
                    int[] all = {p.kind, p.figure, p.farm, s.whole(a[0]) ? 0 : 1, p.loss(),
                        p.stands(), s.wire.indexOf(a[0])};
                    return all[a[1]];
                }
                case "place":
                    thingsIn(s, a[0]);
                    what(a[1], 1);
                    return a[1] == 0 ? s.wire.get(a[0])
                        : a[0] == s.size() - 1 ? -9 : s.cut.contains(a[0]) ? 1 : 0;
                case "thing": {
                    int number = addThing(s, a[0], a[1], a[2]);
                    past.clear();
                    return number;
                }
                case "drops":
                    mayDrop(s, a[0], a[1]);
                    keep();
                    return s.drop(a[0], a[1]).broken.size();
                case "mends":
                    mayMend(s, a[0]);
                    keep();
                    s.broken.remove(a[0]);
                    return s.broken.size();
                case "cuts":
                    mayCut(s, a[0]);
                    keep();
                    s.turn(a[0]);
                    return s.cut.contains(a[0]) ? 1 : 0;
                case "changes":
                    mayChange(s, a[0], a[1]);
                    keep();
                    Collections.swap(s.wire, a[0], a[1]);
                    return s.wire.get(a[0]);
                case "back":
                    state(!past.isEmpty());
                    s = past.remove(past.size() - 1);
                    return past.size();
                case "gets": {
                    thingsIn(s, a[0], a[2]);
                    range(a[1], 1, 60);
                    what(a[3], 1);
                    Hit hit = s.hit(a[0], a[1]);
                    return a[3] == 0 ? hit.of(a[2]) : hit.jump(a[2]);
                }
                case "blow": {
                    thingsIn(s, a[0]);
                    range(a[1], 1, 60);
                    what(a[2], 4);
                    Hit hit = s.hit(a[0], a[1]);
                    int far = -9;
                    int start = s.wire.indexOf(a[0]);
                    for (int way = 0; way < 8; way++) {
                        for (int place : new int[] {start + way, start - way}) {
                            if (place >= 0 && place < s.size() && hit.of(s.wire.get(place)) > 0) {
                                far = place;
                            }
                        }
                    }
                    int[] all = {bits(hit.got.keySet()), bits(hit.broken), hit.got.size(),
                        hit.jumps(), far};
                    return all[a[2]];
                }
                case "reaches":
                    thingsIn(s, a[0], a[1]);
                    for (int b = 1; b <= 60; b++) {
                        if (s.hit(a[0], b).of(a[1]) > 0) {
                            return b;
                        }
                    }
                    return -9;
                case "breaks":
                    thingsIn(s, a[0], a[1]);
                    for (int b = 1; b <= 60; b++) {
                        if (s.hit(a[0], b).broken.contains(a[1])) {
                            return b;
                        }
                    }
                    return -9;
                case "harm":
                    thingsIn(s, a[0]);
                    what(a[1], 1);
                    return leastOf((t, hit) ->
                        hit.broken.contains(a[0]) ? hit.broken.size() - 1 : -1)[a[1]];
                case "tap":
                    thingsIn(s, a[0]);
                    return leastOf((t, hit) -> {
                        Set<Integer> others = new HashSet<>(hit.got.keySet());
                        boolean heard = others.remove(a[0]);
                        others.remove(t);
                        return t != a[0] && heard && hit.broken.isEmpty() ? others.size() : -1;
                    })[0];
                default:
                    return later(name, a);
            }
        }

        long later(String name, int[] a) {
            switch (name) {
                case "who": {
                    what(a[0], 2);
                    state(row.size() <= s.size());
                    List<Integer> found = new ArrayList<>();
                    Set<Integer> whom = new TreeSet<>();
                    for (int t = 0; t < s.size(); t++) {
                        for (int b = 1; b <= 60; b++) {
                            if (s.whole(t) && rowIs(s.hit(t, b))) {
                                found.add(100 * t + b);
                                whom.add(t);
                            }
                        }
                    }
                    return a[0] == 0 ? found.size() : a[0] == 2 ? bits(whom)
                        : found.isEmpty() ? -9 : found.get(0);
                }
                case "whatKind": {
                    thingsIn(s, a[0], a[2]);
                    range(a[1], 1, 60);
                    what(a[3], 1);
                    state(row.size() <= s.size());
                    Set<Integer> found = new TreeSet<>();
                    Piece p = s.pieces.get(a[2]);
                    for (int k = 0; k < (a[3] == 0 ? 6 : 10); k++) {
                        State trial = s.copy();
                        trial.pieces.set(a[2], a[3] == 0 ? new Piece(k, p.figure, p.farm)
                            : new Piece(p.kind, k, p.farm));
                        if (rowIs(trial.hit(a[0], a[1]))) {
                            found.add(k);
                        }
                    }
                    return bits(found);
                }
                case "worst": {
                    range(a[0], 1, 60);
                    what(a[1], 1);
                    int most = s.most(a[0]);
                    for (int t = 0; t < s.size() && a[1] == 0; t++) {
                        if (most > 0 && s.hit(t, a[0]).broken.size() == most) {
                            return t;
                        }
                    }
                    return a[1] == 0 ? -9 : most;
                }
                case "bestCut": {
                    range(a[0], 1, 60);
                    what(a[1], 1);
                    int[] best = {-9, -9};
                    for (int link = 0; link < s.size() - 1; link++) {
                        if (s.cut.contains(link)) {
                            continue;
                        }
                        State trial = s.copy();
                        trial.cut.add(link);
                        if (best[0] == -9 || trial.most(a[0]) < best[1]) {
                            best = new int[] {link, trial.most(a[0])};
                        }
                    }
                    return best[a[1]];
                }
                case "order": {
                    if (a[0] < 1 || a[1] < -1) {
                        throw new Refused(-4);
                    }
                    range(a[0], 1, 60);
                    state(s.size() <= 6);
                    State trial = s.copy();
                    trial.cut.clear();
                    int least = 99;
                    List<Integer> best = null;
                    for (List<Integer> order : orders(s.size())) {
                        trial.wire = order;
                        int most = trial.most(a[0]);
                        if (most < least) {
                            least = most;
                            best = order;
                        }
                    }
                    return a[1] == -1 ? least : a[1] < s.size() ? best.get(a[1]) : -9;
                }
                case "walk": {
                    if (a[0] < -2) {
                        throw new Refused(-4);
                    }
                    if (a[0] == -2) {
                        return length(s.wire);
                    }
                    int least = 999;
                    List<Integer> best = null;
                    for (List<Integer> order : orders(s.size())) {
                        if (length(order) < least) {
                            least = length(order);
                            best = order;
                        }
                    }
                    return a[0] == -1 ? least : a[0] < s.size() ? best.get(a[0]) : -9;
                }
                case "woman": {
                    range(a[0], 1, 60);
                    what(a[1], 1);
                    int[] best = {-9, -9};
                    for (int t = 0; t < s.size(); t++) {
                        if (s.whole(t)) {
                            int least = 99;
                            for (int link = -1; link < s.size() - 1; link++) {
                                State trial = s.copy();
                                trial.cut.add(link);
                                Set<Integer> others = trial.hit(t, a[0]).broken;
                                others.remove(t);
                                least = Math.min(least, others.size());
                            }
                            if (least > best[0]) {
                                best = new int[] {least, t};
                            }
                        }
                    }
                    return best[a[1]];
                }
                case "lasts":
                    range(a[0], 1, 60);
                    for (int day = 1; day <= 60; day++) {
                        if (behind(a[0], day).broken.size() > s.broken.size()) {
                            return day;
                        }
                    }
                    return -9;
                case "left": {
                    if (a[0] < 1 || a[1] < 0) {
                        throw new Refused(-4);
                    }
                    range(a[0], 1, 60);
                    range(a[1], 0, 60);
                    return s.size() - behind(a[0], a[1]).broken.size();
                }
                case "chance":
                    return chance(a);
                default:
                    return last(name, a);
            }
        }

        int length(List<Integer> order) {
            int length = 0;
            for (int i = 1; i < order.size(); i++) {
                length += Math.abs(s.pieces.get(order.get(i)).farm
                    - s.pieces.get(order.get(i - 1)).farm);
            }
            return length;
        }

        State behind(int v, int days) {
            State trial = s.copy();
            int turn = 0;
            for (int day = 0; day < days && trial.broken.size() < trial.size(); ) {
                if (trial.whole(turn)) {
                    trial.drop(turn, v);
                    day++;
                }
                turn = turn + 1 == trial.size() ? 0 : turn + 1;
            }
            return trial;
        }

        /** All subsets of the days. */
        long chance(int[] a) {
            thingsIn(s, a[0], a[1]);
            if (a[2] < 1 || a[3] < 0 || a[4] < 2) {
                throw new Refused(-4);
            }
            range(a[2], 1, 60);
            range(a[3], 0, 8);
            range(a[4], 2, 20);
            what(a[5], 1);
            BigInteger above = BigInteger.ZERO;
            for (int days = 0; days < 1 << a[3]; days++) {
                State trial = s.copy();
                BigInteger ways = BigInteger.ONE;
                for (int day = 0; day < a[3]; day++) {
                    if ((days >> day & 1) == 1) {
                        trial.drop(a[0], a[2]);
                    } else {
                        ways = ways.multiply(BigInteger.valueOf(a[4] - 1));
                    }
                }
                if (trial.whole(a[1])) {
                    above = above.add(ways);
                }
            }
            BigInteger below = BigInteger.valueOf(a[4]).pow(a[3]);
            BigInteger divisor = above.gcd(below);
            return (a[5] == 0 ? above : below).divide(divisor).longValueExact();
        }

        long last(String name, int[] a) {
            switch (name) {
                case "twins": {
                    range(a[0], 1, 60);
                    int best = -9;
                    int least = 0;
                    for (int one = 0; one < s.size(); one++) {
                        for (int other = one + 1; other < s.size(); other++) {
                            int sum = 0;
                            for (int t = 0; t < s.size(); t++) {
                                Hit hit = s.hit(t, a[0]);
                                sum += Math.abs(hit.of(one) - hit.of(other));
                            }
                            if (best == -9 || sum < least) {
                                best = 10 * one + other;
                                least = sum;
                            }
                        }
                    }
                    return best;
                }
                case "hum": {
                    range(a[0], 1, 60);
                    what(a[1], 1);
                    int all = 0;
                    int quiet = -9;
                    int least = 0;
                    for (int one = 0; one < s.size(); one++) {
                        int sum = 0;
                        for (int t = 0; t < s.size(); t++) {
                            sum += s.hit(t, a[0]).of(one);
                        }
                        all += sum;
                        if (quiet == -9 || sum < least) {
                            quiet = one;
                            least = sum;
                        }
                    }
                    return a[1] == 0 ? all : quiet;
                }
                case "apart":
                    thingsIn(s, a[0], a[1]);
                    return Math.abs(s.wire.indexOf(a[0]) - s.wire.indexOf(a[1]));
                case "heaps": {
                    StringBuilder picture = new StringBuilder();
                    for (int place = 0; place < s.size(); place++) {
                        picture.append(s.whole(s.wire.get(place)) ? "o" : " ");
                        picture.append(s.cut.contains(place) ? " " : "");
                    }
                    String trimmed = picture.toString().trim();
                    return trimmed.isEmpty() ? 0 : trimmed.split(" +").length;
                }
                case "codes":
                    thingsIn(s, a[0], a[1]);
                    return codes(a[0], a[1], -1);
                case "secret":
                    thingsIn(s, a[0], a[1], a[2]);
                    state(a[2] != a[1] && a[2] != a[0]);
                    return codes(a[0], a[1], a[2]);
                case "tough": {
                    thingsIn(s, a[0]);
                    int blow = 0;
                    while (blow < 60 && s.hit(a[0], blow + 1).broken.isEmpty()) {
                        blow++;
                    }
                    return blow;
                }
                case "centre": {
                    range(a[0], 1, 60);
                    what(a[1], 1);
                    int[] best = {-9, -9};
                    for (int t = 0; t < s.size(); t++) {
                        if (s.whole(t) && s.hit(t, a[0]).got.size() > best[1]) {
                            best = new int[] {t, s.hit(t, a[0]).got.size()};
                        }
                    }
                    return best[a[1]];
                }
                case "bestMend": {
                    thingsIn(s, a[0]);
                    range(a[1], 1, 60);
                    int most = s.hit(a[0], a[1]).got.size();
                    int best = -9;
                    for (int t : s.broken) {
                        State trial = s.copy();
                        trial.broken.remove(t);
                        if (trial.hit(a[0], a[1]).got.size() > most) {
                            most = trial.hit(a[0], a[1]).got.size();
                            best = t;
                        }
                    }
                    return best;
                }
                case "bestFigure": {
                    thingsIn(s, a[0], a[1]);
                    range(a[2], 1, 60);
                    int most = -1;
                    int best = -9;
                    for (int figure = 0; figure < 10; figure++) {
                        State trial = s.copy();
                        Piece p = s.pieces.get(a[0]);
                        trial.pieces.set(a[0], new Piece(p.kind, figure, p.farm));
                        if (trial.hit(a[1], a[2]).got.size() > most) {
                            most = trial.hit(a[1], a[2]).got.size();
                            best = figure;
                        }
                    }
                    return best;
                }
                default:
                    return rest(name, a);
            }
        }

        int codes(int thing, int other, int third) {
            Set<Integer> strengths = new TreeSet<>();
            for (int b = 1; b <= 60; b++) {
                Hit hit = s.hit(thing, b);
                if (hit.broken.isEmpty() && hit.of(third) == 0) {
                    strengths.add(hit.of(other));
                }
            }
            strengths.remove(0);
            return strengths.size();
        }

        long rest(String name, int[] a) {
            switch (name) {
                case "domino": {
                    range(a[0], 1, 60);
                    State trial = s.copy();
                    for (int thing : trial.wire) {
                        if (trial.whole(thing)) {
                            trial.drop(thing, a[0]);
                        }
                    }
                    return trial.broken.size();
                }
                case "longest": {
                    what(a[0], 1);
                    int[] best = {-9, -9};
                    for (int link = 0; link < s.size() - 1; link++) {
                        int way = length(s.wire.subList(link, link + 2));
                        if (way > best[1]) {
                            best = new int[] {link, way};
                        }
                    }
                    return best[a[0]];
                }
                case "spared": {
                    range(a[0], 1, 60);
                    Set<Integer> spared = new TreeSet<>();
                    for (int t = 0; t < s.size(); t++) {
                        boolean breaks = !s.whole(t);
                        for (int at = 0; at < s.size(); at++) {
                            breaks |= at != t && s.hit(at, a[0]).broken.contains(t);
                        }
                        if (!breaks) {
                            spared.add(t);
                        }
                    }
                    return bits(spared);
                }
                case "mutual": {
                    range(a[0], 1, 60);
                    int ordered = 0;
                    for (int one = 0; one < s.size(); one++) {
                        for (int other = 0; other < s.size(); other++) {
                            ordered += one != other && s.hit(one, a[0]).of(other) > 0
                                && s.hit(other, a[0]).of(one) > 0 ? 1 : 0;
                        }
                    }
                    return ordered / 2;
                }
                case "row":
                    range(a[0], 0, 99);
                    if (row.size() == 12) {
                        throw new Refused(-6);
                    }
                    row.add(a[0]);
                    return row.size();
                case "judge": {
                    int answer = -9;
                    for (int i = row.size() - 1; i >= 0; i--) {
                        if (i >= s.size() || !s.wire.get(i).equals(row.get(i))) {
                            answer = i;
                        }
                    }
                    row.clear();
                    return answer;
                }
                case "clear": {
                    int had = row.size();
                    row.clear();
                    return had;
                }
                case "lots":
                    return lots(a);
                case "image":
                    image = s.copy();
                    return s.day;
                case "restore":
                    state(image != null);
                    s = image.copy();
                    past.clear();
                    return s.day;
                case "count": {
                    int loss = s.pieces.stream().mapToInt(Piece::loss).sum();
                    int[] all = {s.size(), s.day, bits(s.broken), bits(s.cut), loss,
                        letters.length(), row.size(), past.size(), -9, -9, -9, refusals[1],
                        refusals[2], refusals[3], refusals[4], refusals[5], refusals[6]};
                    return a[0] < 0 || a[0] >= all.length ? -9 : all[a[0]];
                }
                default:
                    throw new IllegalStateException(name);
            }
        }

        long lots(int[] a) {
            range(a[0], 1, 20);
            what(a[2], 1);
            int z = a[1];
            int broken = 0;
            int jumps = 0;
            for (int year = 0; year < a[0] && s.size() > 0; year++) {
                State trial = s.copy();
                for (int drop = 0; drop < 6; drop++) {
                    z = (int) ((long) z * 1103515245L + 12345L);
                    int thing = (z & Integer.MAX_VALUE) / 65536 % s.size();
                    z = (int) ((long) z * 1103515245L + 12345L);
                    int blow = (z & Integer.MAX_VALUE) / 65536 % 30 + 1;
                    Hit hit = trial.drop(thing, blow);
                    broken += hit.broken.size();
                    jumps += hit.jumps();
                }
            }
            return a[2] == 0 ? broken : jumps;
        }
    }

    private static long real(RivetedSisters x, String name, int[] a) {
        switch (name) {
            case "feed": return x.feed(a[0]);
            case "valley": return x.valley();
            case "thingOf": return x.thingOf(a[0], a[1]);
            case "place": return x.place(a[0], a[1]);
            case "thing": return x.thing(a[0], a[1], a[2]);
            case "drops": return x.drops(a[0], a[1]);
            case "mends": return x.mends(a[0]);
            case "cuts": return x.cuts(a[0]);
            case "changes": return x.changes(a[0], a[1]);
            case "back": return x.back();
            case "gets": return x.gets(a[0], a[1], a[2], a[3]);
            case "blow": return x.blow(a[0], a[1], a[2]);
            case "reaches": return x.reaches(a[0], a[1]);
            case "breaks": return x.breaks(a[0], a[1]);
            case "harm": return x.harm(a[0], a[1]);
            case "tap": return x.tap(a[0]);
            case "who": return x.who(a[0]);
            case "whatKind": return x.whatKind(a[0], a[1], a[2], a[3]);
            case "worst": return x.worst(a[0], a[1]);
            case "bestCut": return x.bestCut(a[0], a[1]);
            case "order": return x.order(a[0], a[1]);
            case "walk": return x.walk(a[0]);
            case "woman": return x.woman(a[0], a[1]);
            case "lasts": return x.lasts(a[0]);
            case "left": return x.left(a[0], a[1]);
            case "chance": return x.chance(a[0], a[1], a[2], a[3], a[4], a[5]);
            case "twins": return x.twins(a[0]);
            case "hum": return x.hum(a[0], a[1]);
            case "apart": return x.apart(a[0], a[1]);
            case "heaps": return x.heaps();
            case "codes": return x.codes(a[0], a[1]);
            case "secret": return x.secret(a[0], a[1], a[2]);
            case "tough": return x.tough(a[0]);
            case "centre": return x.centre(a[0], a[1]);
            case "bestMend": return x.bestMend(a[0], a[1]);
            case "bestFigure": return x.bestFigure(a[0], a[1], a[2]);
            case "domino": return x.domino(a[0]);
            case "longest": return x.longest(a[0]);
            case "spared": return x.spared(a[0]);
            case "mutual": return x.mutual(a[0]);
            case "row": return x.row(a[0]);
            case "judge": return x.judge();
            case "clear": return x.clear();
            case "lots": return x.lots(a[0], a[1], a[2]);
            case "image": return x.image();
            case "restore": return x.restore();
            case "count": return x.count(a[0]);
            default: throw new IllegalStateException(name);
        }
    }

    /**
     * What each call is given, a letter an argument: t THING or PLACE, l LINK, b BLOW, k KIND,
     * f FIGURE or FARM, 1 .. 6 a what up to that, d days, n up to 8, o odds, p PLACE or -1, q
     * PLACE or -2, y years, z seed, c what to count, r number of the ROW, L letter.
     */
    private static final String[] CALLS_BY_NAME = {
        "feed L", "valley ", "thingOf t6", "place t1", "thing kff", "drops tb", "mends t",
        "cuts l", "changes tt", "back ", "gets tbt1", "blow tb4", "reaches tt", "breaks tt",
        "harm t1", "tap t", "who 2", "whatKind tbt1", "worst b1", "bestCut b1", "order bp",
        "walk q", "woman b1", "lasts b", "left bd", "chance ttbno1", "twins b", "hum b1",
        "apart tt", "heaps ", "codes tt", "secret ttt", "tough t", "centre b1", "bestMend tb",
        "bestFigure ttb", "domino b", "longest 1", "spared b", "mutual b", "row r", "judge ",
        "clear ", "lots yz1", "image ", "restore ", "count c"};

    private final Random random;
    private final RivetedSisters real = new RivetedSisters();
    private final Model model = new Model();
    private final StringBuilder told = new StringBuilder();
    private int wrong = 0;

    private ModelTest(long seed) {
        random = new Random(seed);
    }

    private int argument(char sort) {
        int n = model.s.size();
        if (random.nextInt(60) == 0) {
            int[] odd = {-1, -2, -3, 0, 1, 2, 7, 8, 9, 10, 20, 21, 60, 61, 99, 100, 255, 256,
                Integer.MIN_VALUE, Integer.MAX_VALUE, 32, -32};
            return odd[random.nextInt(odd.length)];
        }
        switch (sort) {
            case 't': return random.nextInt(12) == 0 ? n : random.nextInt(Math.max(n, 1));
            case 'l': return random.nextInt(Math.max(n, 1));
            case 'b': return random.nextInt(3) == 0 ? 1 + random.nextInt(60)
                : 1 + random.nextInt(24);
            case 'k': return random.nextInt(6);
            case 'f': return random.nextInt(10);
            case 'd': return random.nextInt(3) == 0 ? random.nextInt(61) : random.nextInt(12);
            case 'n': return random.nextInt(9);
            case 'o': return 2 + random.nextInt(19);
            case 'p': return random.nextInt(7) - 1;
            case 'q': return random.nextInt(10) - 2;
            case 'y': return 1 + random.nextInt(20);
            case 'z': return random.nextInt();
            case 'c': return random.nextInt(18);
            case 'L': return "tdmcx;0123456789".charAt(random.nextInt(16));
            case 'r': return random.nextInt(8) == 0 ? random.nextInt(100) : random.nextInt(9);
            default: return random.nextInt(sort - '0' + 1);
        }
    }

    private void check(String name, int... arguments) {
        long want = model.call(name, arguments);
        long got = real(real, name, arguments);
        told.append(name);
        for (int argument : arguments) {
            told.append(' ').append(argument);
        }
        told.append("; ");
        if (got != want) {
            wrong++;
            System.out.println("after " + told + " answered " + got + ", due is " + want);
        }
    }

    private void tellValley() {
        StringBuilder text = new StringBuilder();
        int statements = 1 + random.nextInt(6);
        for (int i = 0; i < statements; i++) {
            String form = "t6ff;d8bb;m8;c7;x88;".split("(?<=;)")[random.nextInt(5)];
            for (char c : form.toCharArray()) {
                int below = c == '6' || c == '8' || c == '7' ? c - '0' : c == 'f' ? 10 : 3;
                text.append("tdmcx;".indexOf(c) >= 0 ? c : (char) ('0' + random.nextInt(below)));
            }
        }
        if (random.nextInt(5) == 0) {
            text.setCharAt(random.nextInt(text.length()), (char) random.nextInt(256));
        }
        if (random.nextInt(6) == 0) {
            text.setLength(random.nextInt(text.length()));
        }
        for (char c : text.toString().toCharArray()) {
            check("feed", c);
        }
        check("valley");
    }

    private void tellJumps() {
        if (model.s.size() == 0) {
            return;
        }
        check("clear");
        Hit hit = model.s.hit(random.nextInt(model.s.size()), 1 + random.nextInt(40));
        int length = random.nextInt(model.s.size() + 1);
        for (int i = 0; i < length; i++) {
            check("row", hit.jump(i));
        }
        for (int what = 0; what < 3; what++) {
            check("who", what);
        }
    }

    private void tellOrder() {
        check("clear");
        for (int thing : model.s.wire) {
            check("row", random.nextInt(20) == 0 ? random.nextInt(9) : thing);
        }
        check("judge");
    }

    private int run() {
        int most = 2 + random.nextInt(7);
        int mends = random.nextInt(5);
        for (int i = random.nextInt(most); i > 0; i--) {
            check("thing", random.nextInt(6), random.nextInt(10), random.nextInt(10));
        }
        for (int call = 0; call < CALLS && wrong == 0; call++) {
            int sort = random.nextInt(100);
            if (sort == 0) {
                tellValley();
            } else if (sort < 3) {
                tellJumps();
            } else if (sort == 3) {
                tellOrder();
            } else if (sort < 4 + mends && !model.s.broken.isEmpty()) {
                List<Integer> broken = new ArrayList<>(model.s.broken);
                check("mends", broken.get(random.nextInt(broken.size())));
            } else {
                String[] form = CALLS_BY_NAME[random.nextInt(CALLS_BY_NAME.length)].split(" ");
                String sorts = form.length > 1 ? form[1] : "";
                int[] arguments = new int[sorts.length()];
                for (int i = 0; i < arguments.length; i++) {
                    arguments[i] = argument(sorts.charAt(i));
                }
                boolean dear = form[0].equals("walk") && model.s.size() > 6
                    && random.nextInt(20) > 0;
                boolean full = form[0].equals("thing") && model.s.size() >= most
                    && random.nextInt(10) > 0;
                if (!dear && !full) {
                    check(form[0], arguments);
                }
            }
        }
        return wrong;
    }

    public static void main(String[] args) {
        int wrong = 0;
        for (int seed = 0; seed < RUNS && wrong < 5; seed++) {
            wrong += new ModelTest(seed).run();
        }
        System.out.println(wrong == 0 ? RUNS + " runs are as due" : wrong + " runs are not as due");
        if (wrong != 0) {
            System.exit(1);
        }
    }
}
