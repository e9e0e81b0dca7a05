import java.util.Arrays;

/** A town of people who become two at a fork; ../shared/DOC.md says what each call promises. */
public final class ForkTown {
    public static final int NONE = -1;

    private static final int NOTHING = -2;
    private static final int NOT_KNOWN = -3;
    private static final int PLACES = 16;
    private static final int ALL_PLACES = 65535;
    private static final int ROADS = 32;
    private static final int ONES = 4;
    private static final int HALVES = 64;
    private static final int FACTS = 16;
    private static final int LAST_HOUR = 999;
    private static final int MOST_HOURS = 48;
    private static final int MOST_COINS = 99999;
    private static final int MOST_WAITS = 99;
    private static final int MOST_GLAD = 99;
    private static final int WHOLE = 4096;
    private static final int FORK_HOURS = 60;

    // Two laws change places, so that a faulty text leaves the one in force alone.
    private Law inForce = new Law();
    private Law spare = new Law();
    private boolean isKept = false;
    private final Net net = new Net();
    private final Tape tape = new Tape();
    private final LawReader lawReader = new LawReader(tape, spare);
    private final HistoryReader historyReader = new HistoryReader(tape);
    private final People now = new People();
    private final People kept = new People();
    private final People scratch = new People();
    private final Past past = new Past();
    private final Past keptPast = new Past();
    private final Passage passage = new Passage(net, now, inForce);
    private final Planner planner = new Planner(net, passage, scratch);
    private final Joiner joiner = new Joiner();
    private final int[] gladOne = new int[ROADS];
    private final int[] gladTwo = new int[ROADS];

    public ForkTown() {
    }

    public boolean road(int r, int from, int to, int length) {
        if (!within(r, ROADS) || !within(from, PLACES) || !within(to, PLACES)) {
            return false;
        }
        if (from == to || length < 1 || length > 9) {
            return false;
        }
        net.tellRoad(r, from, to, length);
        return true;
    }

    public boolean notice(int place, int fact, boolean so) {
        if (!within(place, PLACES) || fact < NONE || fact >= FACTS) {
            return false;
        }
        net.fact[place] = fact;
        net.so[place] = so ? 1 : 0;
        return true;
    }

    public int comes(int one, int place) {
        if (!within(one, ONES) || !within(place, PLACES)) {
            return NONE;
        }
        if (now.living[one] > 0 || now.been >= HALVES) {
            return NONE;
        }
        return now.welcome(one, place);
    }

    public boolean learns(int j, int fact, boolean so) {
        if (!now.isLiving(j) || !within(fact, FACTS)) {
            return false;
        }
        now.all[j].know(fact, so);
        return true;
    }

    public boolean owes(int j, int coins) {
        if (!now.isLiving(j) || coins < 0 || coins > MOST_COINS) {
            return false;
        }
        now.all[j].coins = coins;
        return true;
    }

    public int feed(int a, int b, int c, int d, int e) {
        if (!tape.hasRoomFor(20)) {
            return NONE;
        }
        tape.put(a);
        tape.put(b);
        tape.put(c);
        tape.put(d);
        tape.put(e);
        return tape.size;
    }

    public int law(int n) {
        if (n < 1 || n > 240 || n > tape.size) {
            return NONE;
        }
        int fault = lawReader.read(n, spare);
        tape.clear();
        if (fault != 0) {
            return fault;
        }
        Law old = inForce;
        inForce = spare;
        spare = old;
        return inForce.clauses;
    }

    public int hours(int n) {
        if (!canPass(n)) {
            return NONE;
        }
        passage.begin(now, inForce);
        for (int gone = 0; gone < n; gone++) {
            past.remember(now);
            passage.goBy();
        }
        return now.livingInAll();
    }

    public int tried(int n, int what) {
        if (!canPass(n) || !isTriable(what)) {
            return NONE;
        }
        scratch.copyFrom(now);
        scratch.clearTallies();
        passage.begin(scratch, inForce);
        for (int gone = 0; gone < n; gone++) {
            passage.goBy();
        }
        switch (what) {
            case 0: return scratch.livingInAll();
            case 1: return scratch.parted;
            case 2: return scratch.merged;
            case 3: return scratch.died;
            case 4: return scratch.forgotten;
            default: return scratch.together(what % 10, what / 10);
        }
    }

    public int half(int j, int what) {
        if (!now.hasBeen(j)) {
            return NONE;
        }
        Half half = now.all[j];
        switch (what) {
            case 0: return half.one;
            case 1: return half.parent;
            case 2: return half.born;
            case 3: return half.lives ? 1 : 0;
            case 4: return half.weight;
            case 5: return half.place;
            case 6: return half.road;
            case 7: return half.left;
            case 8: return half.waits;
            case 9: return half.coins;
            case 10: return half.mergedInto;
            default: return what >= 20 && what < 20 + FACTS ? half.knows(what - 20) : NONE;
        }
    }

    public int gladly(int j, int r) {
        if (!now.isAtPlace(j) || !net.isTold(r)) {
            return NONE;
        }
        if (net.from[r] != now.all[j].place) {
            return NOTHING;
        }
        passage.begin(now, inForce);
        return passage.gladness(now.all[j], r);
    }

    public int halves(int one, int what) {
        if (!within(one, ONES) || !within(what, 4)) {
            return NONE;
        }
        int bits = 0;
        for (int i = 0; i < 16; i++) {
            int j = 16 * what + i;
            if (now.isLiving(j) && now.all[j].one == one) {
                bits |= 1 << i;
            }
        }
        return bits;
    }

    public int was(int j, int hour) {
        return now.hasBeen(j) ? past.whereWas(now, j, hour) : NONE;
    }

    public long byForks(int place, int n) {
        if (!within(place, PLACES) || n < 0 || n > FORK_HOURS) {
            return NONE;
        }
        return net.forked(place, n);
    }

    public int plan(int one, int places, int n, int what) {
        if (!within(one, ONES) || !within(places, ALL_PLACES + 1) || !within(what, 3) || !canPass(n)) {
            return NONE;
        }
        int j = now.onlyOneOf(one);
        if (!now.isAtPlace(j)) {
            return NONE;
        }
        planner.seek(now, inForce, j, places, n);
        if (planner.hours < 0) {
            return NOTHING;
        }
        switch (what) {
            case 0: return planner.hours;
            case 1: return planner.doubts;
            default: return planner.most;
        }
    }

    public int joined(int n, int what) {
        if (n < 2 || n > 5 || n > tape.size) {
            return NONE;
        }
        boolean fits = joiner.take(tape, n, now);
        tape.clear();
        if (!fits) {
            return NOTHING;
        }
        if (what != NONE && !within(what, n)) {
            return NOT_KNOWN;
        }
        passage.begin(now, inForce);
        joiner.seek(passage, now);
        return what == NONE ? joiner.most : joiner.best[what];
    }

    public int chosen(int j, int k, int what) {
        if (!now.isAtPlace(j) || !now.isAtPlace(k) || j == k || !within(what, 3)) {
            return NONE;
        }
        if (now.all[j].place != now.all[k].place) {
            return NONE;
        }
        passage.begin(now, inForce);
        passage.fillGladness(now.all[j], gladOne);
        passage.fillGladness(now.all[k], gladTwo);
        int many = 0;
        int first = NOTHING;
        for (int pair = 0; pair < ROADS * ROADS; pair++) {
            if (isSettled(pair / ROADS, pair % ROADS)) {
                first = many == 0 ? pair : first;
                many++;
            }
        }
        if (what == 0) {
            return many;
        }
        if (many == 0) {
            return NOTHING;
        }
        return what == 1 ? first / ROADS : first % ROADS;
    }

    public int whoWas(int n, int what) {
        if (n < 1 || n > 8 || !within(what, 2) || 3 * n > tape.size) {
            return NONE;
        }
        boolean fits = true;
        for (int i = 0; i < n; i++) {
            fits = fits && within(seenPlace(i), PLACES) && past.isRemembered(now, seenHour(i));
        }
        int many = 0;
        int first = NOTHING;
        for (int j = 0; fits && j < now.been; j++) {
            if (wasSeen(j, n)) {
                first = many == 0 ? j : first;
                many++;
            }
        }
        tape.clear();
        if (!fits) {
            return NOTHING;
        }
        return what == 0 ? many : first;
    }

    public int meet(int one) {
        if (!within(one, ONES)) {
            return NONE;
        }
        int common = ALL_PLACES;
        for (int j = 0; j < now.been; j++) {
            Half half = now.all[j];
            if (half.lives && half.one == one) {
                common &= net.reach(net.goalOf(half), 0);
            }
        }
        return common;
    }

    public int built(int what) {
        if (!within(what, 3)) {
            return NONE;
        }
        int groups = 0;
        int lowest = 0;
        for (int place = 0; place < PLACES; place++) {
            int group = net.groupOf(place);
            // A group is counted once, at its lowest place.
            if (group != 0 && (group & ((1 << place) - 1)) == 0) {
                lowest = groups == 0 ? group : lowest;
                groups++;
            }
        }
        switch (what) {
            case 0: return Math.max(groups - 1, 0);
            case 1: return groups;
            default: return lowest;
        }
    }

    public int closed(int from, int to, int what) {
        if (!within(from, PLACES) || !within(to, PLACES) || from == to || !within(what, 2)) {
            return NONE;
        }
        int bits = net.fewestClosed(from, to);
        if (bits < 0) {
            return NOTHING;
        }
        return what == 0 ? Integer.bitCount(bits) : bits;
    }

    public int history(int j, int n) {
        if (!now.hasBeen(j) || n < 1 || n > 60 || n > tape.size) {
            return NONE;
        }
        int fault = historyReader.read(n);
        tape.clear();
        if (fault != 0) {
            return fault;
        }
        for (int step = 0; step < historyReader.steps; step++) {
            if (!isSo(j, historyReader.places[step], historyReader.hours[step])) {
                return step;
            }
        }
        return historyReader.steps;
    }

    public int kin(int j, int other, int what) {
        if (!now.hasBeen(j) || !within(what, 3)) {
            return NONE;
        }
        if (what == 2) {
            return now.hasBeen(other) ? now.nearestInCommon(j, other) : NONE;
        }
        int many = 1;
        int first = j;
        for (int up = 0; up < HALVES && now.all[first].parent >= 0; up++) {
            first = now.all[first].parent;
            many++;
        }
        return what == 0 ? many : first;
    }

    public int bread(int j, int loaves) {
        if (!now.isLiving(j) || loaves < 1 || loaves > 999) {
            return NONE;
        }
        return now.shareOf(now.all[j], loaves);
    }

    public int vote(int one, int fact, int what) {
        if (!within(one, ONES) || !within(fact, FACTS) || !within(what, 3)) {
            return NONE;
        }
        int ayes = now.weightOf(one, fact, 1);
        int noes = now.weightOf(one, fact, 0);
        if (what == 0) {
            return ayes;
        }
        if (what == 1) {
            return noes;
        }
        if (ayes == noes) {
            return NOTHING;
        }
        return ayes > noes ? 1 : 0;
    }

    public boolean seed(int x) {
        if (!within(x, 65536)) {
            return false;
        }
        now.x = x;
        return true;
    }

    public int keep() {
        kept.copyFrom(now);
        keptPast.copyFrom(past);
        isKept = true;
        return now.livingInAll();
    }

    public boolean undo() {
        if (!isKept) {
            return false;
        }
        now.copyFrom(kept);
        past.copyFrom(keptPast);
        return true;
    }

    public int check(int n) {
        if (n < 0 || n > 20 || 4 * n > tape.size) {
            return NOTHING;
        }
        int wrong = NONE;
        for (int j = 0; j < n && wrong == NONE; j++) {
            int weight = now.isLiving(j) ? now.all[j].weight : 0;
            if (tape.numberAt(4 * j) != weight) {
                wrong = j;
            }
        }
        tape.clear();
        return wrong;
    }

    public int count(int what) {
        switch (what) {
            case 0: return now.hour;
            case 1: return now.been;
            case 2: return now.livingInAll();
            case 3: return inForce.clauses;
            case 4: return tape.size;
            case 5: return now.x;
            case 6: return net.toldRoads();
            case 7: return now.forgotten;
            case 8: return now.died;
            case 9: return now.merged;
            default: return net.tell(what);
        }
    }

    private static boolean within(int number, int bound) {
        return number >= 0 && number < bound;
    }

    private static int faultAt(int kind, int place) {
        return -1000 * kind - place;
    }

    private boolean canPass(int n) {
        return n >= 1 && n <= MOST_HOURS && now.hour + n <= LAST_HOUR;
    }

    private static boolean isTriable(int what) {
        return within(what, 5) || (what >= 10 && what < 40 && what % 10 < ONES);
    }

    /** Whether neither of the two, who chose roads a and b, would gain more by another one alone. */
    private boolean isSettled(int a, int b) {
        if (!within(a, ROADS) || !within(b, ROADS) || gladOne[a] == 0 || gladTwo[b] == 0) {
            return false;
        }
        int gainOne = a == b ? gladOne[a] / 2 : gladOne[a];
        int gainTwo = a == b ? gladTwo[b] / 2 : gladTwo[b];
        for (int r = 0; r < ROADS; r++) {
            int otherOne = r == b ? gladOne[r] / 2 : gladOne[r];
            int otherTwo = r == a ? gladTwo[r] / 2 : gladTwo[r];
            if (otherOne > gainOne || otherTwo > gainTwo) {
                return false;
            }
        }
        return true;
    }

    private int seenHour(int i) {
        return tape.byteAt(3 * i) * 256 + tape.byteAt(3 * i + 1);
    }

    private int seenPlace(int i) {
        return tape.byteAt(3 * i + 2);
    }

    private boolean wasSeen(int j, int n) {
        for (int i = 0; i < n; i++) {
            if (past.whereWas(now, j, seenHour(i)) != seenPlace(i)) {
                return false;
            }
        }
        return true;
    }

    /** Whether a step of a history is so; what is remembered no more is taken as told. */
    private boolean isSo(int j, int place, int hour) {
        if (hour <= now.hour && !past.isRemembered(now, hour)) {
            return true;
        }
        return past.whereWas(now, j, hour) == place;
    }

    /** The bytes that were fed and not yet used. */
    private static final class Tape {
        private final int[] bytes = new int[260];
        private int size = 0;

        boolean hasRoomFor(int more) {
            return size + more <= bytes.length;
        }

        void put(int number) {
            for (int shift = 24; shift >= 0 && hasRoomFor(1); shift -= 8) {
                bytes[size] = (number >> shift) & 255;
                size++;
            }
        }

        int byteAt(int place) {
            return within(place, size) ? bytes[place] : NONE;
        }

        int numberAt(int place) {
            int number = 0;
            for (int i = 0; i < 4; i++) {
                number = (number << 8) | (byteAt(place + i) & 255);
            }
            return number;
        }

        void clear() {
            size = 0;
        }
    }

    /** One half of somebody, living or not. */
    private static final class Half {
        private final int number;
        private int one;
        private int parent;
        private int born;
        private boolean lives;
        private int weight;
        private int place;
        private int road;
        private int left;
        private int waits;
        private int coins;
        private int known;
        private int so;
        private int mergedInto;
        private boolean came;

        Half(int number) {
            this.number = number;
        }

        void copyFrom(Half other) {
            one = other.one;
            parent = other.parent;
            born = other.born;
            lives = other.lives;
            weight = other.weight;
            place = other.place;
            road = other.road;
            left = other.left;
            waits = other.waits;
            coins = other.coins;
            known = other.known;
            so = other.so;
            mergedInto = other.mergedInto;
            came = other.came;
        }

        void beNew(int ofOne, int atPlace, int hour) {
            one = ofOne;
            parent = NOTHING;
            born = hour;
            lives = true;
            weight = WHOLE;
            standAt(atPlace);
            waits = 0;
            coins = 0;
            known = 0;
            so = 0;
            mergedInto = NOTHING;
            came = false;
        }

        void standAt(int here) {
            place = here;
            road = NOTHING;
            left = 0;
        }

        void goOn(int onRoad, int length) {
            place = NOTHING;
            road = onRoad;
            left = length;
        }

        void know(int fact, boolean isSo) {
            int bit = 1 << fact;
            known |= bit;
            so = isSo ? so | bit : so & ~bit;
        }

        int knows(int fact) {
            if ((known >> fact & 1) == 0) {
                return NOTHING;
            }
            return so >> fact & 1;
        }

        /** The facts that two know otherwise, as bits. */
        int clash(Half other) {
            return known & other.known & (so ^ other.so);
        }

        /** The other one becomes part of this one, which forgets the lost facts. */
        void takeIn(Half other, int lost) {
            so = (so | (other.so & ~known)) & ~lost;
            known = (known | other.known) & ~lost;
            weight += other.weight;
            coins = Math.min(MOST_COINS, coins + other.coins);
            waits = Math.max(waits, other.waits);
            came = came || other.came;
            other.lives = false;
            other.mergedInto = number;
        }
    }

    /** All halves that have been, with the hour and the draws: what can be kept and tried. */
    private static final class People {
        private final Half[] all = new Half[HALVES];
        private final int[] living = new int[ONES];
        private int been = 0;
        private int hour = 0;
        private int x = 1;
        private int parted = 0;
        private int merged = 0;
        private int died = 0;
        private int forgotten = 0;

        People() {
            for (int j = 0; j < HALVES; j++) {
                all[j] = new Half(j);
            }
        }

        void copyFrom(People other) {
            // Those beyond 'been' are made anew before they are used.
            for (int j = 0; j < other.been; j++) {
                all[j].copyFrom(other.all[j]);
            }
            System.arraycopy(other.living, 0, living, 0, ONES);
            been = other.been;
            hour = other.hour;
            x = other.x;
            parted = other.parted;
            merged = other.merged;
            died = other.died;
            forgotten = other.forgotten;
        }

        void clearTallies() {
            parted = 0;
            merged = 0;
            died = 0;
            forgotten = 0;
        }

        boolean hasBeen(int j) {
            return within(j, been);
        }

        boolean isLiving(int j) {
            return within(j, been) && all[j].lives;
        }

        boolean isAtPlace(int j) {
            return within(j, been) && all[j].lives && all[j].place >= 0;
        }

        int livingInAll() {
            return living[0] + living[1] + living[2] + living[3];
        }

        int welcome(int one, int place) {
            if (!within(one, ONES) || been >= HALVES) {
                return NONE;
            }
            int j = been;
            all[j].beNew(one, place, hour);
            been++;
            living[one]++;
            return j;
        }

        /** A new half of the same one goes on another road; who parts must be able to. */
        void part(Half half, int road, int length) {
            if (been >= HALVES) {
                return;
            }
            Half other = all[been];
            other.copyFrom(half);
            other.parent = half.number;
            other.born = hour;
            other.weight = half.weight / 2;
            other.came = false;
            other.goOn(road, length);
            half.weight -= other.weight;
            been++;
            living[half.one]++;
            parted++;
        }

        void merge(Half elder, Half other, int lost) {
            elder.takeIn(other, lost);
            living[elder.one]--;
            merged++;
            forgotten += Integer.bitCount(lost);
        }

        /** One dies, and is mourned by all others of the same one. */
        void bury(Half dead) {
            dead.lives = false;
            living[dead.one]--;
            died++;
            for (int j = 0; j < been; j++) {
                Half half = all[j];
                if (half.lives && half.one == dead.one) {
                    half.waits = Math.min(MOST_WAITS, half.waits + 3);
                }
            }
        }

        int draw() {
            x = (25173 * x + 13849) & 65535;
            return x % 10;
        }

        /** The half of a one of which just one lives, or NONE. */
        int onlyOneOf(int one) {
            if (!within(one, ONES) || living[one] != 1) {
                return NONE;
            }
            for (int j = 0; j < been; j++) {
                if (all[j].lives && all[j].one == one) {
                    return j;
                }
            }
            return NONE;
        }

        /** Of those of a one that live: 1 how many, 2 their weight, 3 their coins. */
        int together(int one, int what) {
            int sum = 0;
            for (int j = 0; j < been; j++) {
                Half half = all[j];
                if (half.lives && half.one == one) {
                    sum += what == 1 ? 1 : what == 2 ? half.weight : half.coins;
                }
            }
            return sum;
        }

        int weightOf(int one, int fact, int answer) {
            int sum = 0;
            for (int j = 0; j < been; j++) {
                Half half = all[j];
                if (half.lives && half.one == one && half.knows(fact) == answer) {
                    sum += half.weight;
                }
            }
            return sum;
        }

        int shareOf(Half eater, int loaves) {
            int total = together(eater.one, 2);
            if (total <= 0) {
                return 0;
            }
            int rest = loaves * eater.weight % total;
            int remaining = loaves;
            int ahead = 0;
            for (int j = 0; j < been; j++) {
                Half half = all[j];
                if (half.lives && half.one == eater.one) {
                    remaining -= loaves * half.weight / total;
                    int itsRest = loaves * half.weight % total;
                    if (itsRest > rest || (itsRest == rest && j < eater.number)) {
                        ahead++;
                    }
                }
            }
            return loaves * eater.weight / total + (ahead < remaining ? 1 : 0);
        }

        int nearestInCommon(int j, int other) {
            int one = j;
            int two = other;
            // A parent's number is always lower, so the higher of both goes up.
            for (int up = 0; up < 2 * HALVES && one != two; up++) {
                if (one > two) {
                    int swap = one;
                    one = two;
                    two = swap;
                }
                if (!hasBeen(two) || all[two].parent < 0) {
                    return NOTHING;
                }
                two = all[two].parent;
            }
            return one;
        }
    }

    /** Where each half was when an hour began, for the last hours. */
    private static final class Past {
        private final int[] where = new int[MOST_HOURS * HALVES];

        void copyFrom(Past other) {
            System.arraycopy(other.where, 0, where, 0, where.length);
        }

        /** The hour that begins now is written over the one that is remembered no more. */
        void remember(People people) {
            int row = people.hour % MOST_HOURS * HALVES;
            for (int j = 0; j < HALVES; j++) {
                where[row + j] = people.isAtPlace(j) ? people.all[j].place : NOTHING;
            }
        }

        boolean isRemembered(People people, int hour) {
            return hour >= 0 && hour <= people.hour && hour > people.hour - MOST_HOURS;
        }

        int whereWas(People people, int j, int hour) {
            if (!isRemembered(people, hour)) {
                return NOT_KNOWN;
            }
            int who = j;
            for (int up = 0; up < HALVES && isBeforeIt(people, who, hour); up++) {
                who = people.all[who].parent;
            }
            if (hour == people.hour) {
                return people.isAtPlace(who) ? people.all[who].place : NOTHING;
            }
            return within(who, HALVES) ? where[hour % MOST_HOURS * HALVES + who] : NOTHING;
        }

        /** Whether a half that parted from another one was still that other one then. */
        private boolean isBeforeIt(People people, int who, int hour) {
            return people.hasBeen(who) && people.all[who].parent >= 0 && hour <= people.all[who].born;
        }
    }

    /** The roads and the notices. */
    private static final class Net {
        private final int[] from = new int[ROADS];
        private final int[] to = new int[ROADS];
        private final int[] length = new int[ROADS];
        private final int[] fact = new int[PLACES];
        private final int[] so = new int[PLACES];
        // Of each place those to which a road goes from it, as bits.
        private final int[] next = new int[PLACES];
        private final long[] forks = new long[(FORK_HOURS + 1) * PLACES];

        Net() {
            Arrays.fill(from, NONE);
            Arrays.fill(to, NONE);
            Arrays.fill(fact, NONE);
        }

        void tellRoad(int r, int begin, int end, int hours) {
            from[r] = begin;
            to[r] = end;
            length[r] = hours;
            Arrays.fill(next, 0);
            for (int i = 0; i < ROADS; i++) {
                if (isTold(i)) {
                    next[from[i]] |= 1 << to[i];
                }
            }
        }

        boolean isTold(int r) {
            return within(r, ROADS) && from[r] >= 0;
        }

        int toldRoads() {
            int told = 0;
            for (int r = 0; r < ROADS; r++) {
                told += isTold(r) ? 1 : 0;
            }
            return told;
        }

        /** What is counted by 20 and more: the roads and the notices as they stand. */
        int tell(int what) {
            if (isTold(what - 20)) {
                return from[what - 20];
            }
            if (isTold(what - 60)) {
                return to[what - 60];
            }
            if (isTold(what - 100)) {
                return length[what - 100];
            }
            int place = what - 140;
            if (!within(place, PLACES)) {
                return NONE;
            }
            if (fact[place] < 0) {
                return NOTHING;
            }
            return fact[place] + 100 * so[place];
        }

        /** The place a half is at, or to which it goes. */
        int goalOf(Half half) {
            return isTold(half.road) ? to[half.road] : half.place;
        }

        /** Places to which one can come from a place, itself too, when some are closed. */
        int reach(int place, int closedOnes) {
            if (!within(place, PLACES)) {
                return 0;
            }
            int seen = 1 << place;
            int fresh = seen;
            for (int round = 0; round < PLACES && fresh != 0; round++) {
                int more = 0;
                for (int p = 0; p < PLACES; p++) {
                    more |= (fresh >> p & 1) != 0 ? next[p] : 0;
                }
                fresh = more & ~seen & ~closedOnes;
                seen |= fresh;
            }
            return seen;
        }

        /** The group of a place out of which one does not come again, or 0. */
        int groupOf(int place) {
            int group = reach(place, 0);
            boolean hasRoad = next[place] != 0;
            for (int p = 0; p < PLACES; p++) {
                hasRoad = hasRoad || (next[p] >> place & 1) != 0;
                if ((group >> p & 1) != 0 && (reach(p, 0) >> place & 1) == 0) {
                    return 0;
                }
            }
            return hasRoad ? group : 0;
        }

        /** The fewest places to close, of like ones the least bits; NONE if a road goes straight. */
        int fewestClosed(int begin, int end) {
            if ((next[begin] >> end & 1) != 0) {
                return NONE;
            }
            int between = onTheWay(begin, end);
            int best = between;
            int bits = 0;
            for (int tries = 0; tries <= ALL_PLACES; tries++) {
                boolean fewer = tries == 0 || Integer.bitCount(bits) < Integer.bitCount(best);
                if (fewer && (reach(begin, bits) >> end & 1) == 0) {
                    best = bits;
                }
                bits = (bits - between) & between;
                if (bits == 0) {
                    break;
                }
            }
            return best;
        }

        /** Only a place on some way between both can be among the fewest that are closed. */
        private int onTheWay(int begin, int end) {
            int ahead = reach(begin, 1 << end);
            int between = 0;
            for (int p = 0; p < PLACES; p++) {
                boolean leads = (ahead >> p & 1) != 0 && (reach(p, 1 << begin) >> end & 1) != 0;
                between |= leads && p != begin && p != end ? 1 << p : 0;
            }
            return between;
        }

        /** The lowest eight places from which two roads or more go, as bits. */
        int forkPlaces() {
            int bits = 0;
            for (int p = 0; p < PLACES && Integer.bitCount(bits) < 8; p++) {
                int roads = 0;
                for (int r = 0; r < ROADS; r++) {
                    roads += from[r] == p ? 1 : 0;
                }
                bits |= roads >= 2 ? 1 << p : 0;
            }
            return bits;
        }

        long forked(int place, int n) {
            if (!within(place, PLACES) || !within(n, FORK_HOURS + 1)) {
                return NONE;
            }
            for (int i = 0; i <= n; i++) {
                for (int p = 0; p < PLACES; p++) {
                    forks[i * PLACES + p] = i == 0 || next[p] == 0 ? 1 : forkedOnce(p, i);
                }
            }
            return forks[n * PLACES + place];
        }

        /** One who is still on a road at the end is one; who comes parts in the same hour. */
        private long forkedOnce(int place, int n) {
            long sum = 0;
            for (int r = 0; r < ROADS; r++) {
                if (from[r] == place) {
                    int rest = n - length[r];
                    sum += rest <= 0 ? 1 : forks[rest * PLACES + to[r]];
                }
            }
            return sum;
        }
    }

    /** A law as a row of small orders for a machine with a stack. */
    private static final class Law {
        private static final int MOST_CLAUSES = 16;
        private static final int NUMBER = 0;
        private static final int LETTER = 1;
        private static final int NOT = 2;
        private static final int AND = 3;
        private static final int OR = 4;

        // No byte of a text makes more than one order.
        private final int[] order = new int[240];
        private final int[] operand = new int[240];
        private final int[] letter = new int[MOST_CLAUSES];
        private final int[] worthFrom = new int[MOST_CLAUSES];
        private final int[] termsFrom = new int[MOST_CLAUSES];
        private final int[] termsTo = new int[MOST_CLAUSES];
        private final int[] stack = new int[32];
        private int size = 0;
        private int clauses = 0;

        void clear() {
            size = 0;
            clauses = 0;
        }

        void add(int what, int with) {
            if (size < order.length) {
                order[size] = what;
                operand[size] = with;
                size++;
            }
        }

        /** What the first clause of a letter whose terms hold comes to, within 0 and a bound. */
        int value(int ofLetter, int bound, int[] letters) {
            for (int c = 0; c < clauses; c++) {
                if (letter[c] == ofLetter && run(termsFrom[c], termsTo[c], letters) != 0) {
                    return Math.max(0, Math.min(bound, run(worthFrom[c], termsFrom[c], letters)));
                }
            }
            return 0;
        }

        /** What some orders come to; what is refused comes to 0, and so does not hold. */
        private int run(int begin, int end, int[] letters) {
            int top = NONE;
            for (int at = begin; at < end && at < order.length; at++) {
                int what = order[at];
                if (what == NUMBER || what == LETTER) {
                    if (top + 1 >= stack.length) {
                        return 0;
                    }
                    top++;
                    stack[top] = what == NUMBER ? operand[at] : letters[operand[at]];
                    continue;
                }
                if (top < 0) {
                    return 0;
                }
                int right = stack[top];
                if (what == NOT) {
                    stack[top] = right == 0 ? 1 : 0;
                } else if (what == AND || what == OR) {
                    if ((right != 0) != (what == OR)) {
                        top--;
                    } else if (operand[at] > at) {
                        at = operand[at] - 1;
                    }
                } else {
                    if (top < 1 || (right == 0 && (what == '/' || what == '%'))) {
                        return 0;
                    }
                    top--;
                    int left = stack[top];
                    switch (what) {
                        case '+': stack[top] = left + right; break;
                        case '-': stack[top] = left - right; break;
                        case '*': stack[top] = left * right; break;
                        case '/': stack[top] = left / right; break;
                        case '%': stack[top] = left % right; break;
                        case '<': stack[top] = left < right ? 1 : 0; break;
                        case '>': stack[top] = left > right ? 1 : 0; break;
                        default: stack[top] = left == right ? 1 : 0; break;
                    }
                }
            }
            return top >= 0 ? stack[top] : 0;
        }
    }

    /** Reads a text as a law; each part answers 0 or the fault. */
    private static final class LawReader {
        private static final int MOST_OPEN = 6;
        private static final String CLAUSE_LETTERS = "cdbwxe";
        private static final String LETTERS = "hijzpnmokrqlfy";

        private final Tape tape;
        private final int[] text = new int[241];
        private Law law;
        private int end = 0;
        private int at = 0;
        private int next = NONE;

        LawReader(Tape tape, Law law) {
            this.tape = tape;
            this.law = law;
        }

        int read(int n, Law into) {
            law = into;
            law.clear();
            end = Math.max(0, Math.min(n, text.length - 1));
            for (int i = 0; i < end; i++) {
                text[i] = tape.byteAt(i);
            }
            text[end] = NONE;
            at = 0;
            next = text[0];
            for (int c = 0; c <= Law.MOST_CLAUSES; c++) {
                int fault = clause();
                if (fault != 0 || at == end) {
                    return fault;
                }
                fault = sign(';');
                if (fault != 0) {
                    return fault;
                }
            }
            return faultAt(4, at);
        }

        private void advance() {
            at = Math.min(at + 1, end);
            next = text[at];
        }

        private boolean isOneOf(String signs) {
            return next >= 0 && signs.indexOf((char) next) >= 0;
        }

        private int sign(int wanted) {
            if (next != wanted) {
                return faultAt(1, at);
            }
            advance();
            return 0;
        }

        private int clause() {
            if (!isOneOf(CLAUSE_LETTERS)) {
                return faultAt(1, at);
            }
            if (law.clauses >= Law.MOST_CLAUSES) {
                return faultAt(4, at);
            }
            int c = law.clauses;
            law.letter[c] = next;
            law.worthFrom[c] = law.size;
            advance();
            int fault = 0;
            if (law.letter[c] == 'e') {
                law.add(Law.NUMBER, 1);
            } else {
                fault = sum(0);
            }
            fault = fault != 0 ? fault : sign('(');
            law.termsFrom[c] = law.size;
            fault = fault != 0 ? fault : anyOf(1);
            law.termsTo[c] = law.size;
            law.clauses++;
            return fault != 0 ? fault : sign(')');
        }

        /** Orders of one kind, from a place on, that do not know yet where to leap to: here. */
        private void land(int begin, int what) {
            for (int i = begin; i < law.size; i++) {
                if (law.order[i] == what && law.operand[i] < 0) {
                    law.operand[i] = law.size;
                }
            }
        }

        private int anyOf(int open) {
            int begin = law.size;
            int fault = allOf(open);
            while (fault == 0 && at < end && next == '|') {
                advance();
                law.add(Law.OR, NONE);
                fault = allOf(open);
            }
            land(begin, Law.OR);
            return fault;
        }

        private int allOf(int open) {
            int begin = law.size;
            int fault = piece(open);
            while (fault == 0 && at < end && next == '&') {
                advance();
                law.add(Law.AND, NONE);
                fault = piece(open);
            }
            land(begin, Law.AND);
            return fault;
        }

        private int piece(int open) {
            boolean isNot = next == '!';
            if (isNot || next == '(') {
                if (open >= MOST_OPEN) {
                    return faultAt(5, at);
                }
                advance();
                int fault = isNot ? piece(open + 1) : anyOf(open + 1);
                if (isNot) {
                    law.add(Law.NOT, 0);
                    return fault;
                }
                return fault != 0 ? fault : sign(')');
            }
            int fault = sum(open);
            if (fault != 0) {
                return fault;
            }
            if (!isOneOf("<>=")) {
                return faultAt(1, at);
            }
            int how = next;
            advance();
            fault = sum(open);
            law.add(how, 0);
            return fault;
        }

        private int sum(int open) {
            int fault = product(open);
            while (fault == 0 && at < end && (next == '+' || next == '-')) {
                int how = next;
                advance();
                fault = product(open);
                law.add(how, 0);
            }
            return fault;
        }

        private int product(int open) {
            int fault = factor(open);
            while (fault == 0 && at < end && isOneOf("*/%")) {
                int how = next;
                advance();
                fault = factor(open);
                law.add(how, 0);
            }
            return fault;
        }

        private int factor(int open) {
            if (next >= '0' && next <= '9') {
                return number();
            }
            if (isOneOf(LETTERS)) {
                law.add(Law.LETTER, next - 'a');
                advance();
                return 0;
            }
            if (next != '[') {
                return faultAt(1, at);
            }
            if (open >= MOST_OPEN) {
                return faultAt(5, at);
            }
            advance();
            int fault = sum(open + 1);
            return fault != 0 ? fault : sign(']');
        }

        private int number() {
            int number = 0;
            for (int digits = 0; next >= '0' && next <= '9' && at < end; digits++) {
                if (digits == 5) {
                    return faultAt(2, at);
                }
                number = 10 * number + next - '0';
                advance();
            }
            law.add(Law.NUMBER, number);
            return 0;
        }
    }

    /** Hours going by for some people under a law, and what the law says of them. */
    private static final class Passage {
        private final Net net;
        // What the law's letters stand for, a to z.
        private final int[] letters = new int[26];
        private People people;
        private Law law;
        private int planned = NONE;
        private int doubts = 0;
        private int doubtsAsked = 0;
        private int comeTo = 0;

        Passage(Net net, People people, Law law) {
            this.net = net;
            this.people = people;
            this.law = law;
        }

        void begin(People whose, Law byLaw) {
            people = whose;
            law = byLaw;
            planned = NONE;
        }

        /** From now on a one doubts at told places alone, and nobody dies. */
        void beginPlan(int one, int places) {
            planned = one;
            doubts = places;
            doubtsAsked = 0;
            comeTo = 0;
        }

        void goBy() {
            comeNearer();
            meetAgain();
            arrive();
            if (planned == NONE) {
                die();
            }
            setOut();
            people.hour++;
        }

        private void comeNearer() {
            for (int j = 0; j < people.been; j++) {
                Half half = people.all[j];
                half.came = false;
                if (half.lives && net.isTold(half.road)) {
                    half.left--;
                    if (half.left <= 0) {
                        half.standAt(net.to[half.road]);
                        half.came = true;
                        comeTo |= half.one == planned ? 1 << half.place : 0;
                    }
                } else if (half.lives && half.waits > 0) {
                    half.waits--;
                }
            }
        }

        private void meetAgain() {
            for (int j = 0; j < people.been; j++) {
                Half elder = people.all[j];
                for (int k = j + 1; k < people.been && people.isAtPlace(j); k++) {
                    Half other = people.all[k];
                    if (other.lives && other.one == elder.one && other.place == elder.place) {
                        int clash = elder.clash(other);
                        people.merge(elder, other, clash & ~believed(elder, other, clash));
                    }
                }
            }
        }

        private void arrive() {
            for (int j = 0; j < people.been; j++) {
                Half half = people.all[j];
                if (people.isAtPlace(j) && half.came) {
                    if (net.fact[half.place] >= 0) {
                        half.know(net.fact[half.place], net.so[half.place] != 0);
                    }
                    speakOf(half);
                    half.coins = Math.min(MOST_COINS, half.coins + law.value('b', 999, letters));
                    speakOf(half);
                    half.waits = Math.max(half.waits, law.value('w', 9, letters));
                }
            }
        }

        private void die() {
            for (int j = 0; j < people.been; j++) {
                if (people.isAtPlace(j)) {
                    int draw = people.draw();
                    speakOf(people.all[j]);
                    if (draw < law.value('x', 10, letters)) {
                        people.bury(people.all[j]);
                    }
                }
            }
        }

        private void setOut() {
            int before = people.been;
            for (int j = 0; j < before; j++) {
                Half half = people.all[j];
                if (!people.isAtPlace(j) || half.waits > 0) {
                    continue;
                }
                int first = NONE;
                int second = NONE;
                int most = 0;
                int next = 0;
                for (int r = 0; r < ROADS; r++) {
                    int glad = net.from[r] == half.place ? gladness(half, r) : 0;
                    if (glad > most) {
                        second = first;
                        next = most;
                        first = r;
                        most = glad;
                    } else if (glad > next) {
                        second = r;
                        next = glad;
                    }
                }
                boolean canPart = second >= 0 && people.been < HALVES && half.weight > 1;
                if (canPart && most - next <= doubt(half)) {
                    people.part(half, second, net.length[second]);
                }
                if (first >= 0) {
                    half.goOn(first, net.length[first]);
                }
            }
        }

        /** What the letters stand for when the law is asked of a half. */
        private void speakOf(Half half) {
            letters['h' - 'a'] = people.hour;
            letters['i' - 'a'] = half.one;
            letters['j' - 'a'] = half.number;
            letters['z' - 'a'] = half.weight;
            letters['p' - 'a'] = Math.max(half.place, 0);
            letters['n' - 'a'] = people.living[half.one];
            letters['m' - 'a'] = Integer.bitCount(half.known);
            letters['o' - 'a'] = half.coins;
            letters['k' - 'a'] = people.hour - half.born;
            letters['r' - 'a'] = 0;
            letters['q' - 'a'] = 0;
            letters['l' - 'a'] = 0;
            letters['f' - 'a'] = 0;
            letters['y' - 'a'] = 0;
        }

        int gladness(Half half, int r) {
            speakOf(half);
            letters['r' - 'a'] = r;
            letters['q' - 'a'] = net.to[r];
            letters['l' - 'a'] = net.length[r];
            return law.value('c', MOST_GLAD, letters);
        }

        void fillGladness(Half half, int[] row) {
            for (int r = 0; r < ROADS && r < row.length; r++) {
                row[r] = net.from[r] == half.place ? gladness(half, r) : 0;
            }
        }

        private int doubt(Half half) {
            if (half.one == planned) {
                doubtsAsked |= 1 << half.place;
                return (doubts >> half.place & 1) != 0 ? 99 : 0;
            }
            speakOf(half);
            return law.value('d', 99, letters);
        }

        /** Of facts that two know otherwise those in which the elder one is believed. */
        int believed(Half elder, Half other, int facts) {
            int bits = 0;
            speakOf(elder);
            letters['y' - 'a'] = other.number;
            for (int f = 0; f < FACTS; f++) {
                letters['f' - 'a'] = f;
                if ((facts >> f & 1) != 0 && law.value('e', 1, letters) != 0) {
                    bits |= 1 << f;
                }
            }
            return bits;
        }
    }

    /** Seeks where a one must doubt so that told places are come to and it is one again soonest. */
    private static final class Planner {
        private final Net net;
        private final Passage passage;
        private final People scratch;
        private int hours = NONE;
        private int doubts = 0;
        private int most = 0;
        private int mostOfTry = 0;

        Planner(Net net, Passage passage, People scratch) {
            this.net = net;
            this.passage = passage;
            this.scratch = scratch;
        }

        void seek(People people, Law law, int j, int places, int n) {
            hours = NONE;
            doubts = 0;
            most = 1;
            Half half = people.all[j];
            int wanted = places & ~(1 << half.place);
            if (wanted == 0) {
                hours = 0;
                return;
            }
            // What no road leads to is never come to: the tries, which are dear, can be spared.
            if ((wanted & ~net.reach(half.place, 0)) != 0) {
                return;
            }
            int forks = net.forkPlaces();
            int bits = 0;
            int limit = n;
            for (int tries = 0; tries < 256 && limit > 0; tries++) {
                scratch.copyFrom(people);
                passage.begin(scratch, law);
                passage.beginPlan(half.one, bits);
                int needed = attempt(half.one, wanted, limit);
                if (needed > 0) {
                    hours = needed;
                    doubts = bits;
                    most = mostOfTry;
                    // What comes later must be better to be taken.
                    limit = needed - 1;
                }
                int asked = passage.doubtsAsked & forks;
                // Doubts below the lowest place at which one was asked for would change nothing.
                bits |= asked == 0 ? forks : forks & ((asked & -asked) - 1);
                bits = (bits - forks) & forks;
                if (bits == 0) {
                    return;
                }
            }
        }

        /** The hour behind which all is done and the one is one, or NONE. */
        private int attempt(int one, int wanted, int limit) {
            mostOfTry = 1;
            for (int gone = 1; gone <= limit; gone++) {
                passage.goBy();
                int many = scratch.living[one];
                mostOfTry = Math.max(mostOfTry, many);
                if (many == 1 && (wanted & ~passage.comeTo) == 0) {
                    return gone;
                }
            }
            return NONE;
        }
    }

    /** Seeks the order in which memories are best joined. */
    private static final class Joiner {
        private final int[] row = new int[5];
        private final int[] best = new int[5];
        private int size = 0;
        private int most = NONE;

        /** Takes living halves of one one from the tape, in the least row; false: no such ones. */
        boolean take(Tape tape, int n, People people) {
            size = 0;
            int first = tape.byteAt(0);
            for (int i = 0; i < n && i < row.length; i++) {
                int j = tape.byteAt(i);
                if (!people.isLiving(first) || !people.isLiving(j)) {
                    return false;
                }
                if (people.all[j].one != people.all[first].one) {
                    return false;
                }
                int at = size;
                for (int k = size - 1; k >= 0 && row[k] >= j; k--) {
                    if (row[k] == j) {
                        return false;
                    }
                    row[k + 1] = row[k];
                    at = k;
                }
                row[at] = j;
                size++;
            }
            return size >= 2;
        }

        void seek(Passage passage, People people) {
            most = NONE;
            for (int order = 0; order < 120; order++) {
                int facts = factsOf(passage, people);
                if (facts > most) {
                    most = facts;
                    System.arraycopy(row, 0, best, 0, size);
                }
                if (!goOn()) {
                    return;
                }
            }
        }

        private int factsOf(Passage passage, People people) {
            int number = row[0];
            int known = people.all[number].known;
            int so = people.all[number].so;
            for (int i = 1; i < size; i++) {
                Half next = people.all[row[i]];
                int clash = known & next.known & (so ^ next.so);
                Half elder = people.all[Math.min(number, next.number)];
                Half other = people.all[Math.max(number, next.number)];
                int lost = clash == 0 ? 0 : clash & ~passage.believed(elder, other, clash);
                if (number < next.number) {
                    so = so | (next.so & ~known);
                } else {
                    so = next.so | (so & ~next.known);
                }
                known = (known | next.known) & ~lost;
                so &= known;
                number = elder.number;
            }
            return Integer.bitCount(known);
        }

        /** The next greater row of the same halves; false if this was the greatest. */
        private boolean goOn() {
            int turn = size - 2;
            while (turn >= 0 && row[turn] > row[turn + 1]) {
                turn--;
            }
            if (turn < 0) {
                return false;
            }
            int with = size - 1;
            while (with > turn && row[with] < row[turn]) {
                with--;
            }
            swap(turn, with);
            int high = size - 1;
            for (int low = turn + 1; low < high; low++) {
                swap(low, high);
                high--;
            }
            return true;
        }

        private void swap(int a, int b) {
            int old = row[a];
            row[a] = row[b];
            row[b] = old;
        }
    }

    /** Reads a text as a history; each part answers 0 or the fault. */
    private static final class HistoryReader {
        private final int[] places = new int[16];
        private final int[] hours = new int[16];
        private final Tape tape;
        private int steps = 0;
        private int end = 0;
        private int at = 0;

        HistoryReader(Tape tape) {
            this.tape = tape;
        }

        int read(int n) {
            end = n;
            at = 0;
            steps = 0;
            for (int i = 0; i < places.length; i++) {
                int fault = step();
                if (fault != 0 || at == end) {
                    return fault;
                }
                if (peek() != ',') {
                    return faultAt(1, at);
                }
                at++;
            }
            return faultAt(1, at);
        }

        private int step() {
            int begin = at;
            int place = digits(2);
            if (place < 0) {
                return faultAt(1, at);
            }
            if (place >= PLACES) {
                return faultAt(3, begin);
            }
            if (peek() != '@') {
                return faultAt(1, at);
            }
            at++;
            begin = at;
            int hour = digits(3);
            if (hour < 0) {
                return faultAt(1, at);
            }
            if (steps > 0 && hour <= hours[steps - 1]) {
                return faultAt(6, begin);
            }
            places[steps] = place;
            hours[steps] = hour;
            steps++;
            return 0;
        }

        private int peek() {
            return at < end ? tape.byteAt(at) : NONE;
        }

        /** The number of at most so many digits that stands next, or NONE. */
        private int digits(int most) {
            int number = NONE;
            for (int i = 0; i < most && peek() >= '0' && peek() <= '9'; i++) {
                number = 10 * Math.max(number, 0) + peek() - '0';
                at++;
            }
            return number;
        }
    }
}
