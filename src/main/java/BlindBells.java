import java.util.Arrays;

/**
 * Villages whose bells hang where they themselves can not hear them: who is due to ring for whom, who does, and what
 * follows from it. The document's promises say what each call answers.
 */
public final class BlindBells {
    public static final int NONE = -1, BAD = -2, NO = -3, FULL = -4;

    private static final int FEWEST_VILLAGES = 2, MOST_VILLAGES = 6, VILLAGES_AT_FIRST = 4;
    private static final int PAIRS = MOST_VILLAGES * MOST_VILLAGES;
    private static final int WINDS = 4, MOST_WOODS = 8, MOST_NEEDS = 12;
    private static final int MOST_SIGNS = 6, ALL_BEATS = 255, MOST_LATER = 3;
    private static final int MOST_BYTES = 250, BYTES_OF_LONG = 8, IMAGES = 2;
    private static final int TRUE = 0, TIT = 1, SULKY = 2, FOND = 3, PROUD = 4, DEAF = 5;
    /** What ropes and ring answer for BAD, since NONE asks them something. */
    private static final int BAD_APART = -10;
    private static final int NOT_SO_MANY = -5;
    private static final int FAULT_FROM = -10, REFUSED_FROM = -1000;

    private final Valley valley = new Valley();
    private final Valley draft = new Valley();
    private final Valley[] images = new Valley[IMAGES];
    private final Tale tale = new Tale();
    private final ValleyRun run = new ValleyRun();
    private final RopeSearch ropeSearch = new RopeSearch();
    private final RingSearch ringSearch = new RingSearch();
    private final WoodSearch woodSearch = new WoodSearch();
    private int refusedBad;
    private int refusedNo;
    private int refusedFull;

    public BlindBells() {
    }

    // ---- a valley

    public int villages(int n) {
        int was = valley.villages;
        return counted(valley.settle(n) ? was : BAD);
    }

    public int hears(int bell, int wind, int village, boolean is) {
        return counted(valley.setHears(bell, wind, village, is));
    }

    public int wood(int bell, int village) {
        return counted(valley.addWood(bell, village));
    }

    public int temper(int village, int kind) {
        return counted(valley.setTemper(village, kind));
    }

    public int friendOf(int village, int other) {
        return counted(valley.setFriend(village, other));
    }

    public int change(int a, int b) {
        return counted(valley.changeRopes(a, b));
    }

    public int need(int village, int wind, int seen) {
        return counted(valley.addNeed(village, wind, seen));
    }

    public int undo() {
        return counted(valley.dropNeed());
    }

    public int heard(int bell, int wind) {
        return counted(valley.isVillage(bell) && isWind(wind) ? valley.heardIn(bell, wind) : BAD);
    }

    public int type(long v, int n) {
        return counted(tale.write(v, n));
    }

    public int clear() {
        return tale.wipe();
    }

    public int read() {
        int answer = tale.tell(draft);
        if (answer > 0) {
            valley.copy(draft);
        }
        return answer;
    }

    // ---- the valley run

    public int rang(int need, int what) {
        if (need < 0 || need >= valley.needs || !isSide(what)) {
            return counted(BAD);
        }
        run.go(valley);
        return what == 0 ? run.due[need] : run.rang[need];
    }

    public int helped(int village) {
        if (village != NONE && !valley.isVillage(village)) {
            return counted(BAD);
        }
        run.go(valley);
        return run.needsHelped(valley, village);
    }

    public int favours(int by, int of) {
        if (!valley.areTwo(by, of)) {
            return counted(BAD);
        }
        run.go(valley);
        return run.times[pair(by, of)];
    }

    public int last(int by, int of) {
        if (!valley.areTwo(by, of)) {
            return counted(BAD);
        }
        run.go(valley);
        return run.last[pair(by, of)];
    }

    // ---- ropes, favours, a word

    public int ropes(int bell) {
        if (bell != NONE && !valley.isVillage(bell)) {
            return badApart();
        }
        ropeSearch.go(valley);
        if (bell == NONE || ropeSearch.most == NONE) {
            return ropeSearch.most;
        }
        return ropeSearch.best[bell];
    }

    public int rope(int bell) {
        return counted(valley.isVillage(bell) ? valley.rope[bell] : BAD);
    }

    public int ring(int i) {
        if (i < NONE) {
            return badApart();
        }
        int size = ringSearch.go(valley);
        if (i == NONE) {
            return size;
        }
        return i < size ? ringSearch.path[i] : NOT_SO_MANY;
    }

    public int word(int village, int wind, int what) {
        if (!valley.isVillage(village) || !isWind(wind) || !isSide(what)) {
            return counted(BAD);
        }
        int rounds = 0;
        int know = 1 << village;
        int next = valley.knowAfterRound(know, wind);
        // each round that counts has one village more at least
        while (next != know && rounds < MOST_VILLAGES) {
            rounds++;
            know = next;
            next = valley.knowAfterRound(know, wind);
        }
        return what == 0 ? rounds : know;
    }

    public int fell() {
        return woodSearch.go(valley);
    }

    // ---- signs, from which bell

    public int sign(int strokes) {
        return counted(valley.addSign(strokes));
    }

    public int clearSigns() {
        for (int a = 0; a < valley.signs; a++) {
            for (int b = 0; b < valley.signs; b++) {
                int taken = valley.firstTakenFor(a, b);
                if (taken != NONE) {
                    return 1000 * a + 100 * b + taken;
                }
            }
        }
        return NONE;
    }

    public int came(int wind, int heardIn, int not) {
        return counted(valley.canCome(wind, heardIn, not) ? valley.bellsFrom(wind, heardIn, not) : BAD);
    }

    public int ask(int wind, int heardIn, int not) {
        if (!valley.canCome(wind, heardIn, not)) {
            return counted(BAD);
        }
        int bells = valley.bellsFrom(wind, heardIn, not);
        return valley.partsMostEvenly(wind, bells, heardIn | not);
    }

    // ---- what there is

    public int image(int i) {
        if (i < 0 || i >= IMAGES) {
            return counted(BAD);
        }
        if (images[i] == null) {
            images[i] = new Valley();
        }
        images[i].copy(valley);
        return 1;
    }

    public int from(int i) {
        if (i < 0 || i >= IMAGES) {
            return counted(BAD);
        }
        if (images[i] == null) {
            return counted(NO);
        }
        valley.copy(images[i]);
        return 1;
    }

    public int status(int what) {
        switch (what) {
            case 0: return refusedBad;
            case 1: return refusedNo;
            case 2: return refusedFull;
            default:
                refusedBad++;
                return NONE;
        }
    }

    public int count(int what) {
        return counted(howMany(what));
    }

    public long digest() {
        long h = 727;
        for (int what = 0; what <= 4; what++) {
            h = 31 * h + howMany(what);
        }
        return valley.digestFrom(h);
    }

    // ---- what the calls share

    private int counted(int answer) {
        if (answer == BAD) {
            refusedBad++;
        } else if (answer == NO) {
            refusedNo++;
        } else if (answer == FULL) {
            refusedFull++;
        }
        return answer;
    }

    private int badApart() {
        refusedBad++;
        return BAD_APART;
    }

    private int howMany(int what) {
        switch (what) {
            case 0: return valley.villages;
            case 1: return valley.woods;
            case 2: return valley.needs;
            case 3: return valley.signs;
            case 4: return tale.length;
            default: return BAD;
        }
    }

    private static boolean isWind(int wind) {
        return wind >= 0 && wind < WINDS;
    }

    private static boolean isSide(int what) {
        return what == 0 || what == 1;
    }

    private static boolean has(int bits, int i) {
        return (bits >> i & 1) != 0;
    }

    private static int pair(int a, int b) {
        return a * MOST_VILLAGES + b;
    }

    /** All that an image keeps. What it is told it tests itself, so that the calls and the tale are refused alike. */
    private static final class Valley {
        int villages;
        int woods;
        int needs;
        int signs;
        final int[] temper = new int[MOST_VILLAGES];
        final int[] friend = new int[MOST_VILLAGES];
        final int[] rope = new int[MOST_VILLAGES];
        final int[] hears = new int[MOST_VILLAGES * WINDS];
        /** Of a bell the villages that woods shut it out of: it follows from the woods, and spares looking at them. */
        final int[] shut = new int[MOST_VILLAGES];
        final int[] woodBell = new int[MOST_WOODS];
        final int[] woodVillage = new int[MOST_WOODS];
        final int[] needVillage = new int[MOST_NEEDS];
        final int[] needWind = new int[MOST_NEEDS];
        final int[] needSeen = new int[MOST_NEEDS];
        final int[] sign = new int[MOST_SIGNS];

        Valley() {
            settle(VILLAGES_AT_FIRST);
        }

        boolean settle(int n) {
            if (n < FEWEST_VILLAGES || n > MOST_VILLAGES) {
                return false;
            }
            villages = n;
            woods = 0;
            needs = 0;
            signs = 0;
            Arrays.fill(temper, TRUE);
            Arrays.fill(hears, 0);
            Arrays.fill(shut, 0);
            for (int v = 0; v < MOST_VILLAGES; v++) {
                friend[v] = v;
                rope[v] = v;
            }
            return true;
        }

        void copy(Valley other) {
            villages = other.villages;
            woods = other.woods;
            needs = other.needs;
            signs = other.signs;
            System.arraycopy(other.temper, 0, temper, 0, MOST_VILLAGES);
            System.arraycopy(other.friend, 0, friend, 0, MOST_VILLAGES);
            System.arraycopy(other.rope, 0, rope, 0, MOST_VILLAGES);
            System.arraycopy(other.hears, 0, hears, 0, MOST_VILLAGES * WINDS);
            System.arraycopy(other.shut, 0, shut, 0, MOST_VILLAGES);
            System.arraycopy(other.woodBell, 0, woodBell, 0, MOST_WOODS);
            System.arraycopy(other.woodVillage, 0, woodVillage, 0, MOST_WOODS);
            System.arraycopy(other.needVillage, 0, needVillage, 0, MOST_NEEDS);
            System.arraycopy(other.needWind, 0, needWind, 0, MOST_NEEDS);
            System.arraycopy(other.needSeen, 0, needSeen, 0, MOST_NEEDS);
            System.arraycopy(other.sign, 0, sign, 0, MOST_SIGNS);
        }

        boolean isVillage(int v) {
            return v >= 0 && v < villages;
        }

        boolean areTwo(int a, int b) {
            return isVillage(a) && isVillage(b) && a != b;
        }

        boolean areBits(int bits) {
            return bits >= 0 && bits < 1 << villages;
        }

        // -- what it is told

        int setHears(int bell, int wind, int village, boolean is) {
            if (!areTwo(bell, village) || !isWind(wind)) {
                return BAD;
            }
            int at = bell * WINDS + wind;
            if (has(hears[at], village) == is) {
                return NO;
            }
            hears[at] ^= 1 << village;
            return 1;
        }

        int addWood(int bell, int village) {
            if (!areTwo(bell, village)) {
                return BAD;
            }
            if (woods >= MOST_WOODS) {
                return FULL;
            }
            woodBell[woods] = bell;
            woodVillage[woods] = village;
            shut[bell] |= 1 << village;
            return woods++;
        }

        int setTemper(int village, int kind) {
            if (!isVillage(village) || kind < TRUE || kind > DEAF) {
                return BAD;
            }
            int was = temper[village];
            temper[village] = kind;
            return was;
        }

        int setFriend(int village, int other) {
            if (!isVillage(village) || !isVillage(other)) {
                return BAD;
            }
            int was = friend[village];
            friend[village] = other;
            return was;
        }

        int changeRopes(int a, int b) {
            if (!areTwo(a, b)) {
                return BAD;
            }
            int ofA = rope[a];
            rope[a] = rope[b];
            rope[b] = ofA;
            return 1;
        }

        int addNeed(int village, int wind, int seen) {
            if (!isVillage(village) || !isWind(wind) || !areBits(seen) || has(seen, village)) {
                return BAD;
            }
            if (needs >= MOST_NEEDS) {
                return FULL;
            }
            needVillage[needs] = village;
            needWind[needs] = wind;
            needSeen[needs] = seen;
            return needs++;
        }

        int dropNeed() {
            if (needs <= 0) {
                return NO;
            }
            needs--;
            return needs;
        }

        int addSign(int strokes) {
            if (strokes < 1 || strokes > ALL_BEATS || signOf(strokes) != NONE) {
                return BAD;
            }
            if (signs >= MOST_SIGNS) {
                return FULL;
            }
            sign[signs] = strokes;
            return signs++;
        }

        // -- what is heard

        int heardIn(int bell, int wind) {
            return hears[bell * WINDS + wind] & ~shut[bell];
        }

        int heardInAnyWind(int bell) {
            int bits = 0;
            for (int wind = 0; wind < WINDS; wind++) {
                bits |= heardIn(bell, wind);
            }
            return bits;
        }

        int dueFor(int need) {
            int bits = 0;
            for (int bell = 0; bell < villages; bell++) {
                if (has(heardIn(bell, needWind[need]), needVillage[need])) {
                    bits |= 1 << rope[bell];
                }
            }
            return bits & needSeen[need];
        }

        int knowAfterRound(int know, int wind) {
            int bits = know;
            for (int bell = 0; bell < villages; bell++) {
                if (has(know, rope[bell])) {
                    bits |= heardIn(bell, wind);
                }
            }
            return bits;
        }

        boolean canCome(int wind, int heard, int not) {
            return isWind(wind) && areBits(heard) && areBits(not) && (heard & not) == 0;
        }

        int bellsFrom(int wind, int heard, int not) {
            int bells = 0;
            for (int bell = 0; bell < villages; bell++) {
                int where = heardIn(bell, wind);
                if ((where & heard) == heard && (where & not) == 0) {
                    bells |= 1 << bell;
                }
            }
            return bells;
        }

        int partsMostEvenly(int wind, int bells, int known) {
            int best = NONE;
            int bestLess = 0;
            for (int v = 0; v < villages; v++) {
                if (!has(known, v)) {
                    int heard = Integer.bitCount(bells & bellsHeardAt(v, wind));
                    int less = Math.min(heard, Integer.bitCount(bells) - heard);
                    if (less > bestLess) {
                        best = v;
                        bestLess = less;
                    }
                }
            }
            return best;
        }

        private int bellsHeardAt(int village, int wind) {
            return bellsFrom(wind, 1 << village, 0);
        }

        // -- signs

        /** How much later, and the sign for which the two at once are taken, as 10 times the one and the other. */
        int firstTakenFor(int a, int b) {
            for (int later = 0; later <= MOST_LATER; later++) {
                int other = signOf((sign[a] | sign[b] << later) & ALL_BEATS);
                if (other != NONE && other != a && other != b) {
                    return 10 * later + other;
                }
            }
            return NONE;
        }

        private int signOf(int strokes) {
            for (int i = 0; i < signs; i++) {
                if (sign[i] == strokes) {
                    return i;
                }
            }
            return NONE;
        }

        // -- all of it in one number

        long digestFrom(long start) {
            long h = start;
            for (int v = 0; v < villages; v++) {
                h = 31 * h + temper[v];
                h = 31 * h + friend[v];
                h = 31 * h + rope[v];
                for (int wind = 0; wind < WINDS; wind++) {
                    h = 31 * h + hears[v * WINDS + wind];
                }
            }
            for (int i = 0; i < woods; i++) {
                h = 31 * h + woodBell[i];
                h = 31 * h + woodVillage[i];
            }
            for (int i = 0; i < needs; i++) {
                h = 31 * h + needVillage[i];
                h = 31 * h + needWind[i];
                h = 31 * h + needSeen[i];
            }
            for (int i = 0; i < signs; i++) {
                h = 31 * h + sign[i];
            }
            return h;
        }
    }

    /** The valley run. Nothing is kept from one call to the next: a temper or a rope told later changes all of it. */
    private static final class ValleyRun {
        final int[] due = new int[MOST_NEEDS];
        final int[] rang = new int[MOST_NEEDS];
        final int[] times = new int[PAIRS];
        final int[] last = new int[PAIRS];

        void go(Valley valley) {
            Arrays.fill(times, 0);
            Arrays.fill(last, NONE);
            for (int need = 0; need < valley.needs; need++) {
                due[need] = valley.dueFor(need);
                rang[need] = whoRings(valley, need);
                remember(valley, need);
            }
        }

        int needsHelped(Valley valley, int village) {
            int helped = 0;
            for (int need = 0; need < valley.needs; need++) {
                boolean asked = village == NONE || valley.needVillage[need] == village;
                if (asked && rang[need] != 0) {
                    helped++;
                }
            }
            return helped;
        }

        private int whoRings(Valley valley, int need) {
            int bits = 0;
            for (int v = 0; v < valley.villages; v++) {
                if (has(due[need], v) && rings(valley, v, need)) {
                    bits |= 1 << v;
                }
            }
            return bits;
        }

        private boolean rings(Valley valley, int v, int need) {
            int of = valley.needVillage[need];
            switch (valley.temper[v]) {
                case TIT: return !wasRefused(v, of);
                case SULKY: return !wasRefused(v, of) && !wasJustLetDown(valley, v, need);
                case FOND: return valley.friend[v] == of || !wasRefused(v, of);
                case PROUD: return times[pair(v, of)] < times[pair(of, v)];
                // TRUE rings, and DEAF, who stands under SULKY, as TRUE does
                default: return true;
            }
        }

        private boolean wasRefused(int v, int by) {
            return last[pair(by, v)] == 0;
        }

        private boolean wasJustLetDown(Valley valley, int v, int need) {
            return need > 0 && valley.needVillage[need - 1] == v && rang[need - 1] == 0;
        }

        private void remember(Valley valley, int need) {
            int of = valley.needVillage[need];
            for (int v = 0; v < valley.villages; v++) {
                if (has(due[need], v)) {
                    int did = has(rang[need], v) ? 1 : 0;
                    times[pair(v, of)] += did;
                    last[pair(v, of)] = did;
                }
            }
        }
    }

    /** The best way to give ropes: tried by who rings bell 0, 1, .., so that the first of like ones stays. */
    private static final class RopeSearch {
        final int[] best = new int[MOST_VILLAGES];
        int most;
        private final int[] given = new int[MOST_VILLAGES];
        /** Of a bell and who rings it the needs for which that one is due (bits); NONE: it would hear what it rings. */
        private final int[] meets = new int[PAIRS];
        private int villages;

        void go(Valley valley) {
            villages = valley.villages;
            most = NONE;
            for (int bell = 0; bell < villages; bell++) {
                int heard = valley.heardInAnyWind(bell);
                for (int v = 0; v < villages; v++) {
                    meets[pair(bell, v)] = has(heard, v) ? NONE : needsMet(valley, bell, v);
                }
            }
            give(this, 0, 0, 0);
        }

        private static int needsMet(Valley valley, int bell, int ringer) {
            int bits = 0;
            for (int need = 0; need < valley.needs; need++) {
                boolean heard = has(valley.heardIn(bell, valley.needWind[need]), valley.needVillage[need]);
                if (heard && has(valley.needSeen[need], ringer)) {
                    bits |= 1 << need;
                }
            }
            return bits;
        }

        private static void give(RopeSearch search, int bell, int taken, int met) {
            if (bell >= search.villages || bell >= MOST_VILLAGES) {
                search.keepIfMore(Integer.bitCount(met));
                return;
            }
            for (int v = 0; v < search.villages; v++) {
                int more = search.meets[pair(bell, v)];
                if (more != NONE && !has(taken, v)) {
                    search.given[bell] = v;
                    give(search, bell + 1, taken | 1 << v, met | more);
                }
            }
        }

        private void keepIfMore(int met) {
            if (met > most) {
                most = met;
                System.arraycopy(given, 0, best, 0, MOST_VILLAGES);
            }
        }
    }

    /** The shortest ring of favours: sought by its length, then from its least village on. */
    private static final class RingSearch {
        final int[] path = new int[MOST_VILLAGES];
        private final int[] favoured = new int[MOST_VILLAGES];
        private int villages;

        int go(Valley valley) {
            villages = valley.villages;
            for (int bell = 0; bell < villages; bell++) {
                favoured[valley.rope[bell]] = valley.heardInAnyWind(bell);
            }
            for (int size = 2; size <= villages; size++) {
                for (int least = 0; least < villages; least++) {
                    path[0] = least;
                    if (closes(this, size, 1, 1 << least)) {
                        return size;
                    }
                }
            }
            return 0;
        }

        private static boolean closes(RingSearch search, int size, int depth, int used) {
            int here = search.favoured[search.path[depth - 1]];
            if (depth >= size || depth >= MOST_VILLAGES) {
                return has(here, search.path[0]);
            }
            for (int next = search.path[0] + 1; next < search.villages; next++) {
                if (has(here, next) && !has(used, next)) {
                    search.path[depth] = next;
                    if (closes(search, size, depth + 1, used | 1 << next)) {
                        return true;
                    }
                }
            }
            return false;
        }
    }

    /** The fewest woods to be felled, so that each need has somebody due. */
    private static final class WoodSearch {
        /** Of a bell and a village the woods (bits) that shut the one out of the other. */
        private final int[] between = new int[PAIRS];

        int go(Valley valley) {
            Arrays.fill(between, 0);
            for (int i = 0; i < valley.woods; i++) {
                between[pair(valley.woodBell[i], valley.woodVillage[i])] |= 1 << i;
            }
            int best = NONE;
            int fewest = MOST_WOODS + 1;
            for (int felled = 0; felled < 1 << valley.woods; felled++) {
                if (Integer.bitCount(felled) < fewest && meetsAll(valley, felled)) {
                    best = felled;
                    fewest = Integer.bitCount(felled);
                }
            }
            return best;
        }

        private boolean meetsAll(Valley valley, int felled) {
            for (int need = 0; need < valley.needs; need++) {
                if (!meetsOne(valley, need, felled)) {
                    return false;
                }
            }
            return true;
        }

        private boolean meetsOne(Valley valley, int need, int felled) {
            int village = valley.needVillage[need];
            for (int bell = 0; bell < valley.villages; bell++) {
                boolean sees = has(valley.needSeen[need], valley.rope[bell]);
                boolean hears = has(valley.hears[bell * WINDS + valley.needWind[need]], village);
                if (sees && hears && (between[pair(bell, village)] & ~felled) == 0) {
                    return true;
                }
            }
            return false;
        }
    }

    /** The text, and the valley that it tells. */
    private static final class Tale {
        private static final int VILLAGES = 0, HEARS = 1, WOOD = 2, TEMPER = 3, FRIEND = 4, NEED = 5;
        private static final int[] NUMBERS_OF = {1, 3, 2, 2, 2, 3};
        private static final int MOST_NUMBERS = 3, MOST_FIGURES = 2;

        int length;
        private final byte[] text = new byte[MOST_BYTES];
        private final int[] number = new int[MOST_NUMBERS];
        private int word;
        private int numbers;
        private int items;
        private int refused;

        int write(long v, int n) {
            if (n < 1 || n > BYTES_OF_LONG) {
                return BAD;
            }
            if (length + n > MOST_BYTES) {
                return FULL;
            }
            for (int left = n - 1; left >= 0; left--) {
                text[length] = (byte) (v >> 8 * left);
                length++;
            }
            return length;
        }

        int wipe() {
            int had = length;
            length = 0;
            return had;
        }

        /** A fault anywhere goes ahead of an item that is refused, so the reading goes on behind such a one. */
        int tell(Valley draft) {
            word = NONE;
            items = 0;
            refused = NONE;
            int end = 0;
            for (int at = 0; at < length; at++) {
                // what is ahead of the end belongs to a token that stands
                if (at >= end && text[at] != ' ') {
                    end = endOfToken(at);
                    if (!stands(at, end, draft)) {
                        return FAULT_FROM - at;
                    }
                }
            }
            if (items == 0 || word != NONE) {
                return FAULT_FROM - length;
            }
            return refused == NONE ? items : REFUSED_FROM - refused;
        }

        private int endOfToken(int from) {
            int to = from + 1;
            if (isLetter(text[from])) {
                while (to < length && isLetter(text[to])) {
                    to++;
                }
            } else if (isFigure(text[from])) {
                while (to < length && isFigure(text[to])) {
                    to++;
                }
            }
            return to;
        }

        private boolean stands(int from, int to, Valley draft) {
            if (word == NONE) {
                return takesWord(from, to);
            }
            if (numbers < NUMBERS_OF[word]) {
                return takesNumber(from, to);
            }
            if (text[from] != ';') {
                return false;
            }
            if (refused == NONE && !isTaken(draft)) {
                refused = items;
            }
            items++;
            word = NONE;
            return true;
        }

        private boolean takesWord(int from, int to) {
            int kind = wordAt(from, to);
            if (kind == NONE || (kind == VILLAGES) != (items == 0)) {
                return false;
            }
            word = kind;
            numbers = 0;
            return true;
        }

        private boolean takesNumber(int from, int to) {
            if (!isFigure(text[from]) || to - from > MOST_FIGURES) {
                return false;
            }
            int value = 0;
            for (int i = from; i < to; i++) {
                value = 10 * value + text[i] - '0';
            }
            number[numbers] = value;
            numbers++;
            return true;
        }

        private boolean isTaken(Valley draft) {
            switch (word) {
                case VILLAGES: return draft.settle(number[0]);
                case HEARS: return draft.setHears(number[0], number[1], number[2], true) >= 0;
                case WOOD: return draft.addWood(number[0], number[1]) >= 0;
                case TEMPER: return draft.setTemper(number[0], number[1]) >= 0;
                case FRIEND: return draft.setFriend(number[0], number[1]) >= 0;
                default: return draft.addNeed(number[0], number[1], number[2]) >= 0;
            }
        }

        private int wordAt(int from, int to) {
            if (isWord("villages", from, to)) {
                return VILLAGES;
            }
            if (isWord("hears", from, to)) {
                return HEARS;
            }
            if (isWord("wood", from, to)) {
                return WOOD;
            }
            if (isWord("temper", from, to)) {
                return TEMPER;
            }
            if (isWord("friend", from, to)) {
                return FRIEND;
            }
            return isWord("need", from, to) ? NEED : NONE;
        }

        private boolean isWord(String name, int from, int to) {
            if (name.length() != to - from) {
                return false;
            }
            for (int i = from; i < to; i++) {
                if (name.charAt(i - from) != text[i]) {
                    return false;
                }
            }
            return true;
        }

        private static boolean isLetter(byte b) {
            return b >= 'a' && b <= 'z';
        }

        private static boolean isFigure(byte b) {
            return b >= '0' && b <= '9';
        }
    }
}
