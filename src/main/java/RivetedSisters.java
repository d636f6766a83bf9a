/**
 * Things of kinds on farms, joined one behind the other by one length of wire, and the blows
 * that pass along it. The document (../shared/DOC.md) tells what each public method promises;
 * words in capitals in the comments are its words.
 *
 * The outer class looks at what a call is given, counts REFUSALS and hands the rest to the
 * classes inside. All rows are made with the object and used again: a call makes nothing.
 */
public final class RivetedSisters {
    private static final int MOST_THINGS = 8;
    private static final int MOST_IN_ORDERS = 6;
    private static final int ORDERS_OF_SIX = 720;
    private static final int KINDS = 6;
    private static final int FIGURES = 10;
    private static final int MOST_FARM = 9;
    private static final int MOST_BLOW = 60;
    private static final int LAST_DAY = 999;
    private static final int MOST_LETTERS = 96;
    private static final int MOST_LETTER = 255;
    private static final int MOST_IN_ROW = 12;
    private static final int MOST_NUMBER = 99;
    private static final int MOST_BACK = 8;

    private static final int FINE = 0;
    private static final int NOBODY = -1;
    private static final int OTHER = -2;
    private static final int STATE = -3;
    private static final int BELOW = -4;
    private static final int ROOM = -6;
    private static final int NONE = -9;
    private static final int MISFIT = -1000;
    private static final int MISTAKE = -2000;
    private static final long LONG_REFUSAL = 4000000000000000000L;

    private final Wire now = new Wire();
    private final Wire imaged = new Wire();
    private boolean hasImage = false;
    private final Past past = new Past();
    private final Valley valley = new Valley();
    private final Row row = new Row();
    private final Wave wave = new Wave();
    private final Echoes echoes = new Echoes();
    private final Plans plans = new Plans();
    private final Orders orders = new Orders();
    private final Futures futures = new Futures();
    private final int[] refusals = new int[1 - ROOM];

    public RivetedSisters() {
    }

    public int feed(int letter) {
        int refusal = first(below(letter, 0), above(letter, MOST_LETTER));
        refusal = first(refusal, above(valley.told + 1, MOST_LETTERS));
        if (refusal != FINE) {
            return refuse(refusal);
        }
        return valley.hear(letter);
    }

    public int valley() {
        int misfit = valley.firstMisfit();
        int answer = misfit != NONE ? MISFIT - misfit : valley.comeTo(now);
        valley.told = 0;
        if (answer > 0) {
            past.forget();
        }
        return answer;
    }

    public int thingOf(int thing, int what) {
        int refusal = first(now.noThing(thing), unknown(what, 6));
        if (refusal != FINE) {
            return refuse(refusal);
        }
        switch (what) {
            case 0:
                return now.kinds[thing];
            case 1:
                return now.figures[thing];
            case 2:
                return now.farms[thing];
            case 3:
                return now.isBroken(thing) ? 1 : 0;
            case 4:
                return Kinds.lossOf(now.kinds[thing], now.figures[thing]);
            case 5:
                return Kinds.standsOf(now.kinds[thing], now.figures[thing]);
            default:
                return now.placeOf[thing];
        }
    }

    public int place(int place, int what) {
        int refusal = first(now.noThing(place), unknown(what, 1));
        if (refusal != FINE) {
            return refuse(refusal);
        }
        if (what == 0) {
            return now.at[place];
        }
        if (place == now.things - 1) {
            return NONE;
        }
        return now.isCut(place) ? 1 : 0;
    }

    public int thing(int kind, int figure, int farm) {
        int refusal = now.joinRefusal(kind, figure, farm);
        if (refusal != FINE) {
            return refuse(refusal);
        }
        past.forget();
        return now.join(kind, figure, farm);
    }

    public int drops(int thing, int blow) {
        int refusal = now.dropRefusal(thing, blow);
        if (refusal != FINE) {
            return refuse(refusal);
        }
        past.keep(now);
        wave.drop(now, thing, blow);
        return wave.brokenCount();
    }

    public int mends(int thing) {
        int refusal = now.mendRefusal(thing);
        if (refusal != FINE) {
            return refuse(refusal);
        }
        past.keep(now);
        now.mend(thing);
        return Integer.bitCount(now.broken);
    }

    public int cuts(int link) {
        int refusal = now.noLink(link);
        if (refusal != FINE) {
            return refuse(refusal);
        }
        past.keep(now);
        now.turnCut(link);
        return now.isCut(link) ? 1 : 0;
    }

    public int changes(int one, int other) {
        int refusal = now.changeRefusal(one, other);
        if (refusal != FINE) {
            return refuse(refusal);
        }
        past.keep(now);
        now.exchange(one, other);
        return now.at[one];
    }

    public int back() {
        if (past.size == 0) {
            return refuse(STATE);
        }
        return past.takeBack(now);
    }

    public int gets(int thing, int blow, int other, int what) {
        int refusal = first(now.noThing(thing), now.noThing(other));
        refusal = first(first(refusal, noBlow(blow)), unknown(what, 1));
        if (refusal != FINE) {
            return refuse(refusal);
        }
        wave.strike(now, thing, blow);
        return what == 0 ? wave.got[other] : wave.jumpIn(now, other);
    }

    public int blow(int thing, int blow, int what) {
        int refusal = first(first(now.noThing(thing), noBlow(blow)), unknown(what, 4));
        if (refusal != FINE) {
            return refuse(refusal);
        }
        wave.strike(now, thing, blow);
        switch (what) {
            case 0:
                return wave.hearers;
            case 1:
                return wave.victims;
            case 2:
                return wave.hearerCount();
            case 3:
                return wave.jumpsIn(now);
            default:
                return wave.farthestIn(now, thing);
        }
    }

    public int reaches(int thing, int other) {
        int refusal = first(now.noThing(thing), now.noThing(other));
        if (refusal != FINE) {
            return refuse(refusal);
        }
        return echoes.leastHeard(now, thing, other);
    }

    public int breaks(int thing, int other) {
        int refusal = first(now.noThing(thing), now.noThing(other));
        if (refusal != FINE) {
            return refuse(refusal);
        }
        return echoes.leastBreaking(now, thing, other);
    }

    public int harm(int thing, int what) {
        int refusal = first(now.noThing(thing), unknown(what, 1));
        if (refusal != FINE) {
            return refuse(refusal);
        }
        return echoes.leastHarm(now, thing).answer(what);
    }

    public int tap(int thing) {
        int refusal = now.noThing(thing);
        if (refusal != FINE) {
            return refuse(refusal);
        }
        return echoes.quietestTap(now, thing).which;
    }

    public int who(int what) {
        int refusal = first(unknown(what, 2), rowTooLong());
        if (refusal != FINE) {
            return refuse(refusal);
        }
        echoes.findDroppers(now, row);
        switch (what) {
            case 0:
                return echoes.droppings;
            case 1:
                return echoes.leastDropping;
            default:
                return echoes.droppers;
        }
    }

    public int whatKind(int thing, int blow, int other, int what) {
        int refusal = first(now.noThing(thing), now.noThing(other));
        refusal = first(first(refusal, noBlow(blow)), unknown(what, 1));
        refusal = first(refusal, rowTooLong());
        if (refusal != FINE) {
            return refuse(refusal);
        }
        if (what == 0) {
            return echoes.kindsBy(now, row, thing, blow, other);
        }
        return echoes.figuresBy(now, row, thing, blow, other);
    }

    public int worst(int blow, int what) {
        int refusal = first(noBlow(blow), unknown(what, 1));
        if (refusal != FINE) {
            return refuse(refusal);
        }
        Best best = plans.worstPlace(now, blow);
        if (best.which == NONE && what == 1) {
            return 0;
        }
        return best.answer(what);
    }

    public int bestCut(int v, int what) {
        int refusal = first(noBlow(v), unknown(what, 1));
        if (refusal != FINE) {
            return refuse(refusal);
        }
        return plans.mildestCut(now, v).answer(what);
    }

    public int order(int v, int i) {
        int refusal = first(first(below(v, 1), below(i, -1)), above(v, MOST_BLOW));
        if (refusal == FINE && now.things > MOST_IN_ORDERS) {
            refusal = STATE;
        }
        if (refusal != FINE) {
            return refuse(refusal);
        }
        int most = orders.mildest(now, v);
        return i == -1 ? most : orders.thingAt(now, i);
    }

    public int walk(int i) {
        int refusal = below(i, -2);
        if (refusal != FINE) {
            return refuse(refusal);
        }
        if (i == -2) {
            return now.walkLength();
        }
        int shortest = orders.shortestWalk(now);
        return i == -1 ? shortest : orders.thingAt(now, i);
    }

    public int woman(int v, int what) {
        int refusal = first(noBlow(v), unknown(what, 1));
        if (refusal != FINE) {
            return refuse(refusal);
        }
        Best best = plans.womansDrop(now, v);
        return what == 0 ? best.value : best.which;
    }

    public int lasts(int v) {
        int refusal = noBlow(v);
        if (refusal != FINE) {
            return refuse(refusal);
        }
        return futures.firstBreakingDay(now, v);
    }

    public int left(int v, int n) {
        int refusal = first(below(v, 1), below(n, 0));
        refusal = first(refusal, first(above(v, MOST_BLOW), above(n, 60)));
        if (refusal != FINE) {
            return refuse(refusal);
        }
        return futures.wholeBehind(now, v, n);
    }

    public long chance(int thing, int other, int v, int n, int t, int part) {
        int refusal = first(now.noThing(thing), now.noThing(other));
        refusal = first(refusal, first(first(below(v, 1), below(n, 0)), below(t, 2)));
        refusal = first(refusal, first(first(above(v, MOST_BLOW), above(n, 8)), above(t, 20)));
        refusal = first(refusal, unknown(part, 1));
        if (refusal != FINE) {
            return LONG_REFUSAL - refuse(refusal);
        }
        futures.findOdds(now, thing, other, v, n, t);
        return part == 0 ? futures.oddsAbove : futures.oddsBelow;
    }

    public int twins(int v) {
        int refusal = noBlow(v);
        if (refusal != FINE) {
            return refuse(refusal);
        }
        return plans.mostAlike(now, v).which;
    }

    public int hum(int v, int what) {
        int refusal = first(noBlow(v), unknown(what, 1));
        if (refusal != FINE) {
            return refuse(refusal);
        }
        return what == 0 ? plans.allHeard(now, v) : plans.quietest(now, v).which;
    }

    public int apart(int one, int other) {
        int refusal = first(now.noThing(one), now.noThing(other));
        if (refusal != FINE) {
            return refuse(refusal);
        }
        return Math.abs(now.placeOf[one] - now.placeOf[other]);
    }

    public int heaps() {
        return now.stretches();
    }

    public int codes(int thing, int other) {
        int refusal = first(now.noThing(thing), now.noThing(other));
        if (refusal != FINE) {
            return refuse(refusal);
        }
        return echoes.strengths(now, thing, other, NONE);
    }

    public int secret(int thing, int other, int third) {
        int refusal = first(now.noThing(thing), now.noThing(other));
        refusal = first(refusal, now.noThing(third));
        if (refusal == FINE && (third == other || third == thing)) {
            refusal = STATE;
        }
        if (refusal != FINE) {
            return refuse(refusal);
        }
        return echoes.strengths(now, thing, other, third);
    }

    public int tough(int thing) {
        int refusal = now.noThing(thing);
        if (refusal != FINE) {
            return refuse(refusal);
        }
        return echoes.greatestHarmless(now, thing);
    }

    public int centre(int v, int what) {
        int refusal = first(noBlow(v), unknown(what, 1));
        if (refusal != FINE) {
            return refuse(refusal);
        }
        return plans.mostHeard(now, v).answer(what);
    }

    public int bestMend(int thing, int v) {
        int refusal = first(now.noThing(thing), noBlow(v));
        if (refusal != FINE) {
            return refuse(refusal);
        }
        return plans.mendHeardMost(now, thing, v).which;
    }

    public int bestFigure(int thing, int at, int v) {
        int refusal = first(first(now.noThing(thing), now.noThing(at)), noBlow(v));
        if (refusal != FINE) {
            return refuse(refusal);
        }
        return plans.figureHeardMost(now, thing, at, v).which;
    }

    public int domino(int v) {
        int refusal = noBlow(v);
        if (refusal != FINE) {
            return refuse(refusal);
        }
        return futures.brokenBehindAll(now, v);
    }

    public int longest(int what) {
        int refusal = unknown(what, 1);
        if (refusal != FINE) {
            return refuse(refusal);
        }
        return plans.longestLink(now).answer(what);
    }

    public int spared(int v) {
        int refusal = noBlow(v);
        if (refusal != FINE) {
            return refuse(refusal);
        }
        return plans.sparedBits(now, v);
    }

    public int mutual(int v) {
        int refusal = noBlow(v);
        if (refusal != FINE) {
            return refuse(refusal);
        }
        return plans.mutualTwos(now, v);
    }

    public int row(int v) {
        int refusal = first(below(v, 0), above(v, MOST_NUMBER));
        refusal = first(refusal, above(row.told + 1, MOST_IN_ROW));
        if (refusal != FINE) {
            return refuse(refusal);
        }
        return row.hear(v);
    }

    public int judge() {
        int answer = row.firstNotInPlace(now);
        row.told = 0;
        return answer;
    }

    public int clear() {
        int had = row.told;
        row.told = 0;
        return had;
    }

    public int lots(int n, int z, int what) {
        int refusal = first(first(below(n, 1), above(n, 20)), unknown(what, 1));
        if (refusal != FINE) {
            return refuse(refusal);
        }
        futures.drawYears(now, n, z);
        return what == 0 ? futures.brokenByLot : futures.jumpsByLot;
    }

    public int image() {
        imaged.copy(now);
        hasImage = true;
        return now.day;
    }

    public int restore() {
        if (!hasImage) {
            return refuse(STATE);
        }
        now.copy(imaged);
        past.forget();
        return now.day;
    }

    public int count(int what) {
        if (what > 10 && what <= 10 - ROOM) {
            return refusals[what - 10];
        }
        switch (what) {
            case 0:
                return now.things;
            case 1:
                return now.day;
            case 2:
                return now.broken;
            case 3:
                return now.cut;
            case 4:
                return now.allLoss();
            case 5:
                return valley.told;
            case 6:
                return row.told;
            case 7:
                return past.size;
            default:
                return NONE;
        }
    }

    private int refuse(int refusal) {
        if (refusal < 0 && refusal >= ROOM) {
            refusals[-refusal]++;
        }
        return refusal;
    }

    private int rowTooLong() {
        return row.told > now.things ? STATE : FINE;
    }

    private static int first(int refusal, int next) {
        return refusal != FINE ? refusal : next;
    }

    private static int below(int number, int least) {
        return number < least ? BELOW : FINE;
    }

    private static int above(int number, int greatest) {
        return number > greatest ? ROOM : FINE;
    }

    private static int noBlow(int blow) {
        return first(below(blow, 1), above(blow, MOST_BLOW));
    }

    private static int unknown(int what, int last) {
        return what < 0 || what > last ? OTHER : FINE;
    }

    /** What a THING of a KIND is like; each KIND tells how it is unlike the one above it. */
    private static final class Kinds {
        static final int DISH = 1;
        static final int JUG = 2;
        static final int SAUCER = 3;
        static final int BELL = 4;
        static final int CUP = 5;

        static int lossOf(int kind, int figure) {
            int thing = 1 + figure;
            int dish = thing / 2;
            int jug = thing + 2;
            switch (kind) {
                case DISH:
                    return dish;
                case JUG:
                    return jug;
                case SAUCER:
                    return 1;
                case BELL:
                    return jug / 2;
                case CUP:
                    return dish + 1;
                default:
                    return thing;
            }
        }

        static int standsOf(int kind, int figure) {
            int thing = 10 + figure;
            int dish = thing - 4;
            switch (kind) {
                case DISH:
                    return dish;
                case JUG:
                    return thing + 5;
                case SAUCER:
                    return dish / 2;
                case BELL:
                    return 99;
                case CUP:
                    return dish - figure;
                default:
                    return thing;
            }
        }

        /** Who gets no blow does not JUMP, whatever the KIND adds to a JUMP. */
        static int jumpBy(int kind, int blow) {
            if (blow <= 0) {
                return 0;
            }
            int thing = blow / 2;
            int dish = thing + 1;
            switch (kind) {
                case DISH:
                case CUP:
                    return dish;
                case JUG:
                    return blow / 3;
                case SAUCER:
                    return 2 * dish;
                case BELL:
                    return 0;
                default:
                    return thing;
            }
        }
    }

    /** All that there is: THINGS, THE WIRE, what is BROKEN and CUT (bits), the DAY. */
    private static final class Wire {
        int things = 0;
        int broken = 0;
        int cut = 0;
        int day = 0;
        final int[] kinds = new int[MOST_THINGS];
        final int[] figures = new int[MOST_THINGS];
        final int[] farms = new int[MOST_THINGS];
        final int[] at = new int[MOST_THINGS];
        final int[] placeOf = new int[MOST_THINGS];

        void copy(Wire from) {
            things = from.things;
            broken = from.broken;
            cut = from.cut;
            day = from.day;
            System.arraycopy(from.kinds, 0, kinds, 0, MOST_THINGS);
            System.arraycopy(from.figures, 0, figures, 0, MOST_THINGS);
            System.arraycopy(from.farms, 0, farms, 0, MOST_THINGS);
            System.arraycopy(from.at, 0, at, 0, MOST_THINGS);
            System.arraycopy(from.placeOf, 0, placeOf, 0, MOST_THINGS);
        }

        /** There are as many PLACES as THINGS, so this is the test of a PLACE, too. */
        int noThing(int thing) {
            return thing < 0 || thing >= things ? NOBODY : FINE;
        }

        int noLink(int link) {
            return link < 0 || link >= things - 1 ? NOBODY : FINE;
        }

        int joinRefusal(int kind, int figure, int farm) {
            int refusal = first(unknown(kind, KINDS - 1), first(below(figure, 0), below(farm, 0)));
            refusal = first(refusal, first(above(figure, FIGURES - 1), above(farm, MOST_FARM)));
            return first(refusal, above(things + 1, MOST_THINGS));
        }

        int dropRefusal(int thing, int blow) {
            int refusal = first(first(noThing(thing), noBlow(blow)), above(day + 1, LAST_DAY));
            return refusal == FINE && isBroken(thing) ? STATE : refusal;
        }

        int mendRefusal(int thing) {
            int refusal = noThing(thing);
            return refusal == FINE && !isBroken(thing) ? STATE : refusal;
        }

        int changeRefusal(int one, int other) {
            int refusal = first(noThing(one), noThing(other));
            return refusal == FINE && one == other ? NOBODY : refusal;
        }

        int join(int kind, int figure, int farm) {
            int thing = things;
            things++;
            kinds[thing] = kind;
            figures[thing] = figure;
            farms[thing] = farm;
            at[thing] = thing;
            placeOf[thing] = thing;
            return thing;
        }

        void mend(int thing) {
            broken &= ~(1 << thing);
        }

        void turnCut(int link) {
            cut ^= 1 << link;
        }

        void exchange(int one, int other) {
            int thing = at[one];
            at[one] = at[other];
            at[other] = thing;
            placeOf[at[one]] = one;
            placeOf[thing] = other;
        }

        boolean isBroken(int thing) {
            return (broken & (1 << thing)) != 0;
        }

        boolean isCut(int link) {
            return link >= 0 && (cut & (1 << link)) != 0;
        }

        int wholeBits() {
            return ((1 << things) - 1) & ~broken;
        }

        int allLoss() {
            int sum = 0;
            for (int thing = 0; thing < things; thing++) {
                sum += Kinds.lossOf(kinds[thing], figures[thing]);
            }
            return sum;
        }

        /** The first THING that is not BROKEN, from one on and round. */
        int nextWhole(int from) {
            for (int step = 0; step < things; step++) {
                int thing = (from + step) % things;
                if (!isBroken(thing)) {
                    return thing;
                }
            }
            return NONE;
        }

        int wayOver(int link) {
            return Math.abs(farms[at[link + 1]] - farms[at[link]]);
        }

        int walkLength() {
            int length = 0;
            for (int link = 0; link < things - 1; link++) {
                length += wayOver(link);
            }
            return length;
        }

        int stretches() {
            int found = 0;
            boolean goesOn = false;
            for (int place = 0; place < things; place++) {
                boolean whole = !isBroken(at[place]);
                if (whole && !goesOn) {
                    found++;
                }
                goesOn = whole && !isCut(place);
            }
            return found;
        }

        void layInTurnUncut() {
            cut = 0;
            for (int thing = 0; thing < things; thing++) {
                at[thing] = thing;
                placeOf[thing] = thing;
            }
        }

        /** Lays the next order by PLACES; false if this was the last. */
        boolean layNextOrder() {
            int low = things - 2;
            while (low >= 0 && at[low] > at[low + 1]) {
                low--;
            }
            if (low < 0) {
                return false;
            }
            int high = things - 1;
            while (high > low && at[high] < at[low]) {
                high--;
            }
            exchange(low, high);
            int left = low + 1;
            int right = things - 1;
            while (left < right) {
                exchange(left, right);
                left++;
                right--;
            }
            return true;
        }
    }

    /** What one BLOW does along a WIRE. */
    private static final class Wave {
        final int[] got = new int[MOST_THINGS];
        int hearers = 0;
        int victims = 0;

        void strike(Wire wire, int thing, int blow) {
            for (int each = 0; each < MOST_THINGS; each++) {
                got[each] = 0;
            }
            hearers = 0;
            victims = 0;
            spread(wire, wire.placeOf[thing], 1, blow);
            spread(wire, wire.placeOf[thing], -1, blow);
        }

        /** Strikes, and who is BROKEN by it stays so; a DAY more. */
        void drop(Wire wire, int thing, int blow) {
            strike(wire, thing, blow);
            wire.broken |= victims;
            wire.day++;
        }

        /** Goes one way; each way begins at the THING that is struck itself. */
        private void spread(Wire wire, int start, int step, int blow) {
            int rest = blow;
            for (int passed = 0; passed < wire.things; passed++) {
                int place = start + step * passed;
                if (rest <= 0 || wire.noThing(place) != FINE) {
                    return;
                }
                int thing = wire.at[place];
                if (wire.isBroken(thing)) {
                    return;
                }
                int kind = wire.kinds[thing];
                int figure = wire.figures[thing];
                got[thing] = rest;
                hearers |= 1 << thing;
                if (rest >= Kinds.standsOf(kind, figure)) {
                    victims |= 1 << thing;
                    return;
                }
                if (wire.isCut(Math.min(place, place + step))) {
                    return;
                }
                rest -= Kinds.lossOf(kind, figure);
            }
        }

        boolean isHeardBy(int thing) {
            return thing >= 0 && (hearers & (1 << thing)) != 0;
        }

        boolean hasBroken(int thing) {
            return (victims & (1 << thing)) != 0;
        }

        int hearerCount() {
            return Integer.bitCount(hearers);
        }

        int brokenCount() {
            return Integer.bitCount(victims);
        }

        int othersBroken(int thing) {
            return Integer.bitCount(victims & ~(1 << thing));
        }

        int jumpIn(Wire wire, int thing) {
            return Kinds.jumpBy(wire.kinds[thing], got[thing]);
        }

        int jumpsIn(Wire wire) {
            int sum = 0;
            for (int thing = 0; thing < wire.things; thing++) {
                sum += jumpIn(wire, thing);
            }
            return sum;
        }

        int farthestIn(Wire wire, int thing) {
            int start = wire.placeOf[thing];
            int farthest = NONE;
            int way = -1;
            for (int place = 0; place < wire.things; place++) {
                if (isHeardBy(wire.at[place]) && Math.abs(place - start) > way) {
                    farthest = place;
                    way = Math.abs(place - start);
                }
            }
            return farthest;
        }
    }

    /** The one found so far; who is offered in rising order stays in front of its equals. */
    private static final class Best {
        int which = NONE;
        int value = NONE;

        void none() {
            which = NONE;
            value = NONE;
        }

        void offerLeast(int candidate, int measure) {
            if (which == NONE || measure < value) {
                which = candidate;
                value = measure;
            }
        }

        void offerMost(int candidate, int measure) {
            if (which == NONE || measure > value) {
                which = candidate;
                value = measure;
            }
        }

        int answer(int what) {
            return what == 0 ? which : value;
        }
    }

    /** The states that can be TAKEN BACK, the oldest overwritten first. */
    private static final class Past {
        private final Wire[] kept = new Wire[MOST_BACK];
        private int next = 0;
        int size = 0;

        Past() {
            for (int slot = 0; slot < MOST_BACK; slot++) {
                kept[slot] = new Wire();
            }
        }

        void keep(Wire wire) {
            kept[next].copy(wire);
            next = (next + 1) % MOST_BACK;
            size = Math.min(size + 1, MOST_BACK);
        }

        int takeBack(Wire wire) {
            next = (next + MOST_BACK - 1) % MOST_BACK;
            wire.copy(kept[next]);
            size--;
            return size;
        }

        void forget() {
            size = 0;
        }
    }

    /** The ROW of numbers. */
    private static final class Row {
        private final int[] numbers = new int[MOST_IN_ROW];
        int told = 0;

        int hear(int number) {
            numbers[told] = number;
            told++;
            return told;
        }

        boolean tellsJumps(Wave wave, Wire wire) {
            if (told > wire.things) {
                return false;
            }
            for (int thing = 0; thing < told; thing++) {
                if (numbers[thing] != Math.min(wave.jumpIn(wire, thing), MOST_NUMBER)) {
                    return false;
                }
            }
            return true;
        }

        int firstNotInPlace(Wire wire) {
            for (int place = 0; place < told; place++) {
                if (place >= wire.things || wire.at[place] != numbers[place]) {
                    return place;
                }
            }
            return NONE;
        }
    }

    /** The letters of a VALLEY, and how it comes. */
    private static final class Valley {
        private final int[] letters = new int[MOST_LETTERS];
        private final Wire trial = new Wire();
        private final Wave wave = new Wave();
        int told = 0;

        int hear(int letter) {
            letters[told] = letter;
            told++;
            return told;
        }

        /** The place of a FAULT of kind 1, or NONE. */
        int firstMisfit() {
            if (told == 0) {
                return 0;
            }
            int start = 0;
            while (start < told) {
                int digits = digitsBehind(letters[start]);
                if (digits == 0) {
                    return start;
                }
                int end = start + 1 + digits;
                for (int place = start + 1; place < end; place++) {
                    if (place >= told || !isDigit(letters[place])) {
                        return place;
                    }
                }
                if (end >= told || letters[end] != ';') {
                    return end;
                }
                start = end + 1;
            }
            return NONE;
        }

        /** Letters that fit come to a WIRE, all or none: the STATEMENTS, or the FAULT. */
        int comeTo(Wire wire) {
            trial.copy(wire);
            int statements = 0;
            int start = 0;
            while (start < told) {
                if (refusalOf(start) != FINE) {
                    return MISTAKE - start;
                }
                act(start);
                statements++;
                start += digitsBehind(letters[start]) + 2;
            }
            wire.copy(trial);
            return statements;
        }

        private int refusalOf(int start) {
            int one = digit(start + 1);
            switch (letters[start]) {
                case 't':
                    return trial.joinRefusal(one, digit(start + 2), digit(start + 3));
                case 'd':
                    return trial.dropRefusal(one, blowIn(start));
                case 'm':
                    return trial.mendRefusal(one);
                case 'c':
                    return trial.noLink(one);
                default:
                    return trial.changeRefusal(one, digit(start + 2));
            }
        }

        private void act(int start) {
            int one = digit(start + 1);
            switch (letters[start]) {
                case 't':
                    trial.join(one, digit(start + 2), digit(start + 3));
                    break;
                case 'd':
                    wave.drop(trial, one, blowIn(start));
                    break;
                case 'm':
                    trial.mend(one);
                    break;
                case 'c':
                    trial.turnCut(one);
                    break;
                default:
                    trial.exchange(one, digit(start + 2));
            }
        }

        private int blowIn(int start) {
            return 10 * digit(start + 2) + digit(start + 3);
        }

        private int digit(int place) {
            return place < told ? letters[place] - '0' : NONE;
        }

        private static boolean isDigit(int letter) {
            return letter >= '0' && letter <= '9';
        }

        /** How many digits a STATEMENT has behind its first letter; 0 if none begins so. */
        private static int digitsBehind(int letter) {
            switch (letter) {
                case 't':
                case 'd':
                    return 3;
                case 'x':
                    return 2;
                case 'm':
                case 'c':
                    return 1;
                default:
                    return 0;
            }
        }
    }

    /** Questions that try the BLOWS one after the other. */
    private static final class Echoes {
        private final Wave wave = new Wave();
        private final Wire mind = new Wire();
        private final Best best = new Best();
        int droppings = 0;
        int leastDropping = NONE;
        int droppers = 0;

        int leastHeard(Wire wire, int thing, int other) {
            for (int blow = 1; blow <= MOST_BLOW; blow++) {
                wave.strike(wire, thing, blow);
                if (wave.isHeardBy(other)) {
                    return blow;
                }
            }
            return NONE;
        }

        int leastBreaking(Wire wire, int thing, int other) {
            for (int blow = 1; blow <= MOST_BLOW; blow++) {
                wave.strike(wire, thing, blow);
                if (wave.hasBroken(other)) {
                    return blow;
                }
            }
            return NONE;
        }

        int greatestHarmless(Wire wire, int thing) {
            for (int blow = 1; blow <= MOST_BLOW; blow++) {
                wave.strike(wire, thing, blow);
                if (wave.victims != 0) {
                    return blow - 1;
                }
            }
            return MOST_BLOW;
        }

        Best leastHarm(Wire wire, int victim) {
            best.none();
            for (int thing = 0; thing < wire.things; thing++) {
                for (int blow = 1; blow <= MOST_BLOW; blow++) {
                    wave.strike(wire, thing, blow);
                    if (wave.hasBroken(victim)) {
                        best.offerLeast(100 * thing + blow, wave.brokenCount() - 1);
                    }
                }
            }
            return best;
        }

        Best quietestTap(Wire wire, int hearer) {
            best.none();
            for (int thing = 0; thing < wire.things; thing++) {
                if (thing == hearer) {
                    continue;
                }
                for (int blow = 1; blow <= MOST_BLOW; blow++) {
                    wave.strike(wire, thing, blow);
                    if (wave.isHeardBy(hearer) && wave.victims == 0) {
                        best.offerLeast(100 * thing + blow, wave.hearerCount() - 2);
                    }
                }
            }
            return best;
        }

        void findDroppers(Wire wire, Row row) {
            droppings = 0;
            leastDropping = NONE;
            droppers = 0;
            for (int thing = 0; thing < wire.things; thing++) {
                if (wire.isBroken(thing)) {
                    continue;
                }
                for (int blow = 1; blow <= MOST_BLOW; blow++) {
                    wave.strike(wire, thing, blow);
                    if (row.tellsJumps(wave, wire)) {
                        countDropping(thing, blow);
                    }
                }
            }
        }

        private void countDropping(int thing, int blow) {
            droppings++;
            droppers |= 1 << thing;
            if (leastDropping == NONE) {
                leastDropping = 100 * thing + blow;
            }
        }

        int kindsBy(Wire wire, Row row, int thing, int blow, int other) {
            mind.copy(wire);
            int found = 0;
            for (int kind = 0; kind < KINDS; kind++) {
                mind.kinds[other] = kind;
                wave.strike(mind, thing, blow);
                if (row.tellsJumps(wave, mind)) {
                    found |= 1 << kind;
                }
            }
            return found;
        }

        int figuresBy(Wire wire, Row row, int thing, int blow, int other) {
            mind.copy(wire);
            int found = 0;
            for (int figure = 0; figure < FIGURES; figure++) {
                mind.figures[other] = figure;
                wave.strike(mind, thing, blow);
                if (row.tellsJumps(wave, mind)) {
                    found |= 1 << figure;
                }
            }
            return found;
        }

        /** Unlike strengths that one hears while nothing breaks; deaf may be NONE. */
        int strengths(Wire wire, int thing, int hearer, int deaf) {
            long heard = 0;
            for (int blow = 1; blow <= MOST_BLOW; blow++) {
                wave.strike(wire, thing, blow);
                if (wave.victims == 0 && wave.isHeardBy(hearer) && !wave.isHeardBy(deaf)) {
                    heard |= 1L << wave.got[hearer];
                }
            }
            return Long.bitCount(heard);
        }
    }

    /** Questions about one BLOW v at each THING, as all is or with one change in mind. */
    private static final class Plans {
        private final Wave wave = new Wave();
        private final Wire mind = new Wire();
        private final Best best = new Best();
        private final int[] heard = new int[MOST_THINGS];
        private final int[] unlike = new int[MOST_THINGS * MOST_THINGS];

        Best worstPlace(Wire wire, int blow) {
            best.none();
            for (int thing = 0; thing < wire.things; thing++) {
                wave.strike(wire, thing, blow);
                if (wave.victims != 0) {
                    best.offerMost(thing, wave.brokenCount());
                }
            }
            return best;
        }

        Best mildestCut(Wire wire, int blow) {
            best.none();
            mind.copy(wire);
            for (int link = 0; link < wire.things - 1; link++) {
                if (!wire.isCut(link)) {
                    mind.turnCut(link);
                    best.offerLeast(link, mostBroken(mind, blow));
                    mind.turnCut(link);
                }
            }
            return best;
        }

        private int mostBroken(Wire wire, int blow) {
            int most = 0;
            for (int thing = 0; thing < wire.things; thing++) {
                wave.strike(wire, thing, blow);
                most = Math.max(most, wave.brokenCount());
            }
            return most;
        }

        Best womansDrop(Wire wire, int blow) {
            best.none();
            mind.copy(wire);
            for (int thing = 0; thing < wire.things; thing++) {
                if (!wire.isBroken(thing)) {
                    best.offerMost(thing, othersInSpite(thing, blow));
                }
            }
            return best;
        }

        /** How many others break at least, whichever LINK the valley CUTS, or none. */
        private int othersInSpite(int thing, int blow) {
            wave.strike(mind, thing, blow);
            int least = wave.othersBroken(thing);
            for (int link = 0; link < mind.things - 1; link++) {
                if (!mind.isCut(link)) {
                    mind.turnCut(link);
                    wave.strike(mind, thing, blow);
                    least = Math.min(least, wave.othersBroken(thing));
                    mind.turnCut(link);
                }
            }
            return least;
        }

        Best mostAlike(Wire wire, int blow) {
            for (int pair = 0; pair < unlike.length; pair++) {
                unlike[pair] = 0;
            }
            for (int thing = 0; thing < wire.things; thing++) {
                wave.strike(wire, thing, blow);
                addUnlike(wire.things);
            }
            best.none();
            for (int one = 0; one < wire.things; one++) {
                for (int other = one + 1; other < wire.things; other++) {
                    best.offerLeast(10 * one + other, unlike[MOST_THINGS * one + other]);
                }
            }
            return best;
        }

        private void addUnlike(int things) {
            for (int one = 0; one < things; one++) {
                for (int other = one + 1; other < things; other++) {
                    int gap = Math.abs(wave.got[one] - wave.got[other]);
                    unlike[MOST_THINGS * one + other] += gap;
                }
            }
        }

        int allHeard(Wire wire, int blow) {
            hearAll(wire, blow);
            int sum = 0;
            for (int thing = 0; thing < wire.things; thing++) {
                sum += heard[thing];
            }
            return sum;
        }

        Best quietest(Wire wire, int blow) {
            hearAll(wire, blow);
            best.none();
            for (int thing = 0; thing < wire.things; thing++) {
                best.offerLeast(thing, heard[thing]);
            }
            return best;
        }

        private void hearAll(Wire wire, int blow) {
            for (int thing = 0; thing < MOST_THINGS; thing++) {
                heard[thing] = 0;
            }
            for (int thing = 0; thing < wire.things; thing++) {
                wave.strike(wire, thing, blow);
                for (int hearer = 0; hearer < wire.things; hearer++) {
                    heard[hearer] += wave.got[hearer];
                }
            }
        }

        Best mostHeard(Wire wire, int blow) {
            best.none();
            for (int thing = 0; thing < wire.things; thing++) {
                if (!wire.isBroken(thing)) {
                    wave.strike(wire, thing, blow);
                    best.offerMost(thing, wave.hearerCount());
                }
            }
            return best;
        }

        Best mendHeardMost(Wire wire, int thing, int blow) {
            best.none();
            wave.strike(wire, thing, blow);
            int asItIs = wave.hearerCount();
            mind.copy(wire);
            for (int mended = 0; mended < wire.things; mended++) {
                if (!wire.isBroken(mended)) {
                    continue;
                }
                mind.broken = wire.broken;
                mind.mend(mended);
                wave.strike(mind, thing, blow);
                if (wave.hearerCount() > asItIs) {
                    best.offerMost(mended, wave.hearerCount());
                }
            }
            return best;
        }

        Best figureHeardMost(Wire wire, int thing, int struck, int blow) {
            best.none();
            mind.copy(wire);
            for (int figure = 0; figure < FIGURES; figure++) {
                mind.figures[thing] = figure;
                wave.strike(mind, struck, blow);
                best.offerMost(figure, wave.hearerCount());
            }
            return best;
        }

        Best longestLink(Wire wire) {
            best.none();
            for (int link = 0; link < wire.things - 1; link++) {
                best.offerMost(link, wire.wayOver(link));
            }
            return best;
        }

        int sparedBits(Wire wire, int blow) {
            int bits = wire.wholeBits();
            for (int thing = 0; thing < wire.things; thing++) {
                wave.strike(wire, thing, blow);
                bits &= ~(wave.victims & ~(1 << thing));
            }
            return bits;
        }

        int mutualTwos(Wire wire, int blow) {
            int twos = 0;
            for (int thing = 0; thing < wire.things; thing++) {
                wave.strike(wire, thing, blow);
                heard[thing] = wave.hearers;
                for (int earlier = 0; earlier < thing; earlier++) {
                    if (wave.isHeardBy(earlier) && (heard[earlier] & (1 << thing)) != 0) {
                        twos++;
                    }
                }
            }
            return twos;
        }
    }

    /** Questions about all orders of the THINGS. */
    private static final class Orders {
        private final Wave wave = new Wave();
        private final Wire mind = new Wire();
        private final int[] found = new int[MOST_THINGS];
        private final int[] rising = new int[MOST_THINGS];

        int thingAt(Wire wire, int place) {
            return place >= 0 && place < wire.things ? found[place] : NONE;
        }

        /** Finds the order in which the most that a BLOW breaks is least: that most. */
        int mildest(Wire wire, int blow) {
            mind.copy(wire);
            mind.layInTurnUncut();
            int least = MOST_THINGS + 1;
            for (int turn = 0; turn < ORDERS_OF_SIX; turn++) {
                int most = mostBrokenBut(blow, least);
                if (most < least) {
                    least = most;
                    System.arraycopy(mind.at, 0, found, 0, MOST_THINGS);
                }
                if (least == 0 || !mind.layNextOrder()) {
                    break;
                }
            }
            return least;
        }

        /** The most that a BLOW breaks; looks no further once it is enough to be no better. */
        private int mostBrokenBut(int blow, int enough) {
            int most = 0;
            for (int thing = 0; thing < mind.things && most < enough; thing++) {
                wave.strike(mind, thing, blow);
                most = Math.max(most, wave.brokenCount());
            }
            return most;
        }

        /**
         * Finds the first order with the least WALK: its length. No order is shorter than the
         * way from the least FARM to the greatest, and those that have no more go up all the
         * way or down all the way.
         */
        int shortestWalk(Wire wire) {
            sortByFarm(wire, 1, rising);
            sortByFarm(wire, -1, found);
            if (isAhead(rising, found, wire.things)) {
                System.arraycopy(rising, 0, found, 0, MOST_THINGS);
            }
            if (wire.things == 0) {
                return 0;
            }
            return Math.abs(wire.farms[found[wire.things - 1]] - wire.farms[found[0]]);
        }

        /** Sorts the THINGS by FARM (sign 1 up, -1 down), those of one FARM by number. */
        private static void sortByFarm(Wire wire, int sign, int[] sorted) {
            for (int thing = 0; thing < wire.things; thing++) {
                int place = thing;
                int key = sign * wire.farms[thing];
                while (place > 0 && sign * wire.farms[sorted[place - 1]] > key) {
                    sorted[place] = sorted[place - 1];
                    place--;
                }
                sorted[place] = thing;
            }
        }

        private static boolean isAhead(int[] one, int[] other, int length) {
            for (int place = 0; place < length; place++) {
                if (one[place] != other[place]) {
                    return one[place] < other[place];
                }
            }
            return false;
        }
    }

    /** Questions about many drops, each as all is then; nothing of it stays. */
    private static final class Futures {
        private static final int DROPS_IN_A_YEAR = 6;
        private static final int DRAWN_BLOWS = 30;
        private static final int MOST_DIVISIONS = 200;

        private final Wave wave = new Wave();
        private final Wire mind = new Wire();
        private int seed = 0;
        long oddsAbove = 0;
        long oddsBelow = 1;
        int brokenByLot = 0;
        int jumpsByLot = 0;

        /** Nothing changes until something breaks, so one round tells all. */
        int firstBreakingDay(Wire wire, int blow) {
            int day = 0;
            for (int thing = 0; thing < wire.things; thing++) {
                if (!wire.isBroken(thing)) {
                    day++;
                    wave.strike(wire, thing, blow);
                    if (wave.victims != 0) {
                        return day;
                    }
                }
            }
            return NONE;
        }

        int wholeBehind(Wire wire, int blow, int days) {
            mind.copy(wire);
            int turn = 0;
            for (int day = 0; day < days; day++) {
                int thing = mind.nextWhole(turn);
                if (thing == NONE) {
                    return 0;
                }
                wave.drop(mind, thing, blow);
                turn = thing + 1;
            }
            return Integer.bitCount(mind.wholeBits());
        }

        int brokenBehindAll(Wire wire, int blow) {
            mind.copy(wire);
            for (int place = 0; place < mind.things; place++) {
                wave.drop(mind, mind.at[place], blow);
            }
            return Integer.bitCount(mind.broken);
        }

        /** Sums, over how often it may be dropped, the odds of that if one is whole then. */
        void findOdds(Wire wire, int thing, int other, int blow, int days, int t) {
            mind.copy(wire);
            long above = 0;
            long ways = 1;
            for (int drops = 0; drops <= days && !mind.isBroken(other); drops++) {
                above += ways * power(t - 1, days - drops);
                ways = ways * (days - drops) / (drops + 1);
                wave.drop(mind, thing, blow);
            }
            long below = power(t, days);
            long divisor = commonDivisor(below, above);
            oddsAbove = above / divisor;
            oddsBelow = below / divisor;
        }

        private static long power(int base, int exponent) {
            long product = 1;
            for (int factor = 0; factor < exponent; factor++) {
                product *= base;
            }
            return product;
        }

        /** Of two numbers, the first above 0; with 0 it is the first. */
        private static long commonDivisor(long one, long other) {
            long divisor = Math.max(one, 1);
            long rest = other;
            for (int division = 0; rest > 0 && division < MOST_DIVISIONS; division++) {
                long next = divisor % rest;
                divisor = rest;
                rest = next;
            }
            return divisor;
        }

        void drawYears(Wire wire, int years, int z) {
            seed = z;
            brokenByLot = 0;
            jumpsByLot = 0;
            for (int year = 0; year < years && wire.things > 0; year++) {
                mind.copy(wire);
                for (int drop = 0; drop < DROPS_IN_A_YEAR; drop++) {
                    int thing = draw(mind.things);
                    int blow = draw(DRAWN_BLOWS) + 1;
                    wave.drop(mind, thing, blow);
                    brokenByLot += wave.brokenCount();
                    jumpsByLot += wave.jumpsIn(mind);
                }
            }
        }

        private int draw(int below) {
            seed = seed * 1103515245 + 12345;
            int drawn = (seed & 0x7fffffff) / 65536;
            return below > 0 ? drawn % below : 0;
        }
    }
}
