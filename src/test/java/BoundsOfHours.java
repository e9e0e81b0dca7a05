/** What 'Terms' says of HALVES, of TWO who MERGE, of AN HOUR and of DRAWS, sentence by sentence, at its bounds. */
public final class BoundsOfHours extends TownTest {
    private BoundsOfHours() {
    }

    public static void main(String[] args) {
        roadToldOtherwise();
        numbersGiven();
        upTo64();
        with64();
        weightOfOne();
        weightRoundedUp();
        longWaiting();
        coinsTogether();
        factsTogether();
        elderByNumber();
        waitsTheLonger();
        hourLessLeft();
        waitsOneLess();
        mergeAtOnePlace();
        mergeByNumbers();
        noticeKnown();
        owesMore();
        waitsIfMore();
        drawsOfThoseAtPlaces();
        drawsModulo();
        mourning();
        mostGladly();
        partsByDoubt();
        whatIsHalved();
        goesWithoutWaiting();
        hourIsOneMore();
        keptThings();
        undoneHalves();
        seedOfDraws();
        end();
    }

    private static void roadToldOtherwise() {
        about("of a ROAD told otherwise HALVES on it go on as long as they had to, to where it goes then");
        for (int gone = 1; gone <= 9; gone++) {
            for (int length : new int[] {1, 9}) {
                ForkTown t = with("c5(1=1)", 0, 0, 1, 9);
                t.hours(gone);
                t.road(0, 5, 15, length);
                due("left", t.half(0, 7), 10 - gone);
                pass(t, 9 - gone);
                due("not before", t.half(0, 6), 0);
                due("not before", t.half(0, 7), 1);
                t.hours(1);
                due("to where it goes then", t.half(0, 5), 15);
            }
        }
    }

    private static void numbersGiven() {
        about("HALVES 0 to 63: numbers are given as they come, none twice");
        ForkTown t = with("c9(h=0);x10(h=2&j=1);e(1=1)", 0, 0, 1, 1, 1, 0, 2, 2);
        due("a ONE comes", t.count(1), 1);
        t.hours(1);
        due("parted", t.half(1, 1), 0);
        due("another comes", t.comes(3, 7), 2);
        t.hours(2);
        due("dead", t.half(1, 3), 0);
        due("its number is not given again", t.comes(2, 7), 3);
        law(t, "c9(h>3)");
        t.hours(2);
        due("been", t.count(1), 4);
    }

    /** So many are dead; then two come to a fork, ONE 0 and ONE 1, who part if they can. */
    private static ForkTown twoAtForks(int dead) {
        ForkTown t = town("x10(1=1)", 0, 0, 1, 9, 1, 0, 2, 9, 2, 5, 6, 9, 3, 5, 7, 9);
        for (int j = 0; j < dead; j++) {
            t.comes(j % 4, 15);
            if (j % 4 == 3 || j == dead - 1) {
                t.hours(1);
            }
        }
        law(t, "c9(1=1)");
        t.comes(1, 5);
        t.comes(0, 0);
        return t;
    }

    private static void upTo64() {
        about("if 64 HALVES have been, it does not part");
        ForkTown t = twoAtForks(60);
        t.hours(1);
        due("both part", t.count(1), 64);
        due("four live", t.count(2), 4);
        due("the last one", t.half(63, 1), 61);
        t = twoAtForks(61);
        t.hours(1);
        due("one parts", t.count(1), 64);
        due("the lower number", t.half(63, 1), 61);
        due("its half", t.half(61, 4), 2048);
        due("the higher one does not", t.half(62, 4), 4096);
        due("it goes on the first", t.half(62, 6), 0);
        t = twoAtForks(62);
        due("tried", t.tried(1, 1), 0);
        t.hours(1);
        due("none parts", t.count(1), 64);
        due("goes on the first", t.half(62, 6), 2);
        due("goes on the first", t.half(63, 6), 0);
        due("whole", t.half(63, 4), 4096);
        t = twoAtForks(63);
        due("only one came", t.count(2), 1);
        t.hours(1);
        due("none parts", t.count(1), 64);
    }

    private static void with64() {
        about("HALVES 0 to 63: all calls with 64 that have been");
        for (int n = 1; n < 48; n += 23) {
            ForkTown t = manyHalves();
            int many = t.count(2);
            due("live", t.tried(n, 0) > 0, true);
            due("live", t.tried(n, 10), t.tried(n, 0));
            due("weight", t.tried(n, 20), 4096);
            due("coins", t.tried(n, 30), 0);
            due("bits", Integer.bitCount(t.halves(0, 0)) + Integer.bitCount(t.halves(0, 1)) + Integer.bitCount(t.halves(0, 2))
                + Integer.bitCount(t.halves(0, 3)), many);
            due("the last one", t.half(63, 3), 1);
            due("learns", t.learns(63, 0, true), true);
            due("for", t.vote(0, 0, 0), t.half(63, 4));
            due("against", t.vote(0, 0, 1), 0);
            due("of many", t.bread(63, 999) < 999, true);
            due("one line", t.kin(63, 0, 1), 0);
            due("in common", t.kin(63, 62, 2) >= 0, true);
            due("all places", t.meet(0), 65535);
            due("not one", t.plan(0, 0, 1, 0), -1);
            due("all were there", whoWas(t, 0, 0, 0), 64);
            due("joined", joined(t, -1, 63, 62), 1);
            due("checked", check(t, new int[20]) < 20, true);
            due("none comes", t.comes(1, 0), -1);
            due("kept", t.keep(), many);
            due("hours", t.hours(n) > 0, true);
            due("undone", t.undo(), true);
            due("live", t.count(2), many);
        }
    }

    private static void undoneHalves() {
        about("UNDONE: HALVES that have been no more have no part in anything");
        ForkTown t = with("c9(h<1)", 0, 0, 1, 1, 1, 0, 2, 1);
        t.learns(0, 0, true);
        t.owes(0, 7);
        t.keep();
        t.hours(1);
        due("two", t.count(2), 2);
        t.learns(1, 0, true);
        t.undo();
        due("one", t.count(2), 1);
        due("in common: no such one", t.kin(0, 1, 2), -1);
        due("bits", t.halves(0, 0), 1);
        due("weight", t.vote(0, 0, 0), 4096);
        due("not against", t.vote(0, 0, 1), 0);
        due("all bread", t.bread(0, 3), 3);
        due("seen", whoWas(t, 0, 0, 0), 1);
        law(t, "x0(1=1)");
        due("tried", t.tried(1, 10), 1);
        due("weight", t.tried(1, 20), 4096);
        due("coins", t.tried(1, 30), 7);
        due("draws of one", drawsIn(t), 1);
        due("a new one", t.comes(1, 4), 1);
        due("of another ONE", t.half(1, 0), 1);
        due("without parent", t.half(1, 1), -2);
        due("without facts", t.half(1, 20), -2);
        due("not there before", t.was(1, 0), -2);
    }

    /** How many draws an hour takes. */
    private static int drawsIn(ForkTown t) {
        long x = t.count(5);
        t.hours(1);
        for (int many = 0; many < 64; many++) {
            if (x == t.count(5)) {
                return many;
            }
            x = (25173 * x + 13849) % 65536;
        }
        return -1;
    }

    private static void weightOfOne() {
        about("if its WEIGHT is 1, it does not part");
        ForkTown t = town("c9(1=1)");
        for (int p = 0; p < 14; p++) {
            t.road(2 * p, p, p + 1, 1);
            t.road(2 * p + 1, p, 15, 9);
        }
        t.comes(0, 0);
        for (int hour = 1; hour <= 12; hour++) {
            t.hours(1);
            due("half of it", t.half(0, 4), 4096 >> hour);
            due("the rest", t.half(hour, 4), 4096 >> hour);
            due("parted", t.count(1), hour + 1);
        }
        for (int hour = 13; hour <= 14; hour++) {
            t.hours(1);
            due("1 does not part", t.count(1), 13);
            due("1 stays", t.half(0, 4), 1);
            due("it goes on the first", t.half(0, 6), 2 * (hour - 1));
        }
    }

    private static void weightRoundedUp() {
        about("the first one has half its WEIGHT (rounded up), the new one the rest");
        ForkTown t = town("c9(1=1)", 0, 0, 1, 1, 1, 0, 2, 2, 2, 1, 2, 1, 3, 1, 15, 9);
        for (int p = 2; p < 14; p++) {
            t.road(2 * p, p, p + 1, 1);
            t.road(2 * p + 1, p, 15, 9);
        }
        t.comes(0, 0);
        t.hours(2);
        due("a quarter", t.half(0, 4), 1024);
        int weight = 3072;
        for (int hour = 3; hour <= 14; hour++) {
            t.hours(1);
            due("rounded up", t.half(0, 4), (weight + 1) / 2);
            due("the rest", t.half(hour, 4), weight / 2);
            weight = (weight + 1) / 2;
        }
        due("3 are 2 and 1, 2 are 1 and 1", weight, 1);
        due("3 are 2 and 1", t.half(13, 4), 1);
        int all = 0;
        for (int j = 0; j < t.count(1); j++) {
            all += t.half(j, 3) * t.half(j, 4);
        }
        due("together", all, 4096);
    }

    /** A ONE of many HALVES on long ROADS, who all go on. */
    private static ForkTown manyHalves() {
        ForkTown t = town("c9(1=1)");
        for (int p = 0; p < 16; p++) {
            t.road(2 * p, p, (p + 1) % 16, 5 + p % 5);
            t.road(2 * p + 1, p, (p + 7) % 16, 9 - p % 4);
        }
        t.comes(0, 0);
        while (t.count(1) < 64) {
            t.hours(1);
        }
        return t;
    }

    private static void longWaiting() {
        about("HOURS it WAITS 0 to 99: 3 more for each that dies (99 at most)");
        ForkTown t = manyHalves();
        due("many", t.count(2) > 40, true);
        law(t, "x10(j>0)");
        boolean over = false;
        int[] waits = new int[64];
        boolean[] at = new boolean[64];
        for (int hour = 0; hour < 9; hour++) {
            int died = t.count(8);
            for (int j = 0; j < 64; j++) {
                waits[j] = t.half(j, 8);
                at[j] = t.half(j, 5) >= 0;
            }
            boolean[] lived = livingOf(t);
            t.hours(1);
            died = t.count(8) - died;
            for (int j = 0; j < 64; j++) {
                int into = t.half(j, 10);
                waits[j] = at[j] ? Math.max(0, waits[j] - 1) : waits[j];
                if (lived[j] && into >= 0) {
                    waits[into] = Math.max(waits[into], waits[j]);
                }
            }
            for (int j = 0; j < 64; j++) {
                if (t.half(j, 3) == 1) {
                    due("waits", t.half(j, 8), Math.min(99, waits[j] + 3 * died));
                    over = over || waits[j] + 3 * died > 99;
                }
            }
        }
        due("some would wait longer", over, true);
        due("one lives", t.count(2), 1);
        int left = t.half(0, 8);
        pass(t, left - 1);
        due("an hour yet", t.half(0, 8), 1);
        t.hours(1);
        due("no more", t.half(0, 8), 0);
        t.hours(1);
        due("not below 0", t.half(0, 8), 0);
    }

    private static boolean[] livingOf(ForkTown t) {
        boolean[] living = new boolean[64];
        for (int j = 0; j < 64; j++) {
            living[j] = t.half(j, 3) == 1;
        }
        return living;
    }

    /** Two who will merge in two hours: 0 and 1, at place 3. */
    private static ForkTown two(String more) {
        ForkTown t = diamond("c9(1=1)" + more);
        t.comes(0, 0);
        t.hours(1);
        return t;
    }

    private static void coinsTogether() {
        about("TWO MERGE: COINS together (99999 at most), WEIGHTS together");
        int[][] coins = {{0, 0, 0}, {1, 0, 1}, {0, 1, 1}, {50000, 49998, 99998}, {50000, 49999, 99999}, {50000, 50000, 99999},
            {99999, 0, 99999}, {0, 99999, 99999}, {99999, 1, 99999}, {99999, 99999, 99999}};
        for (int[] c : coins) {
            ForkTown t = two("");
            t.owes(0, c[0]);
            t.owes(1, c[1]);
            t.hours(2);
            due(c[0] + " and " + c[1], t.half(0, 9), c[2]);
            due("as they were last", t.half(1, 9), c[1]);
            due("weight", t.half(0, 4), 4096);
            due("weight as it was last", t.half(1, 4), 2048);
        }
    }

    private static void factsTogether() {
        about("TWO MERGE: it knows what either knows; what both know otherwise as the elder one has it, if an e holds, else FORGOTTEN");
        for (int elder = -1; elder < 2; elder++) {
            for (int other = -1; other < 2; other++) {
                for (boolean e : new boolean[] {false, true}) {
                    ForkTown t = two(e ? ";e(1=1)" : "");
                    for (int f = 0; f < 16; f += 15) {
                        tell(t, 0, f, elder);
                        tell(t, 1, f, other);
                    }
                    t.hours(2);
                    boolean clash = elder >= 0 && other >= 0 && elder != other;
                    int due = clash ? e ? elder : -2 : Math.max(elder, other) < 0 ? -2 : Math.max(elder, other);
                    due("fact 0", t.half(0, 20), due);
                    due("fact 15", t.half(0, 35), due);
                    due("fact 14", t.half(0, 34), -2);
                    due("forgotten", t.count(7), clash && !e ? 2 : 0);
                    due("as it was last", t.half(1, 35), other < 0 ? -2 : other);
                }
            }
        }
    }

    private static void tell(ForkTown t, int j, int fact, int so) {
        if (so >= 0) {
            t.learns(j, fact, so == 1);
        }
    }

    private static void elderByNumber() {
        about("TWO MERGE: the one with the lower number LIVES on, and is the elder one");
        // the second half is there first and waits
        ForkTown t = town("c9(p=0);c9(p=1);e(1=1)", 0, 0, 1, 2, 1, 0, 2, 1, 2, 1, 2, 1);
        t.comes(0, 0);
        t.hours(2);
        due("the second one is there", t.half(1, 5), 2);
        t.learns(0, 5, true);
        t.learns(1, 5, false);
        t.hours(2);
        due("the first lives on", t.half(0, 3), 1);
        due("the second does not", t.half(1, 3), 0);
        due("merged into", t.half(1, 10), 0);
        due("the first lives on there", t.half(0, 5), 2);
        due("the elder one is believed", t.half(0, 25), 1);
        due("of the dead one", t.half(0, 10), -2);
    }

    /** How long 0 and 2 of a ONE wait, who mourn 1 and merge at place 1 where one of them was before. */
    private static int mergedWaits(int wayOf0, int wayOf2, int w) {
        ForkTown t = town("c9(p=0|p=2);x10(p=4);w" + w + "(p=1&h<3)", 0, 0, 1, wayOf0, 1, 0, 2, 1, 2, 2, 4, 1, 3, 2, 1, wayOf2);
        t.comes(0, 0);
        t.hours(Math.max(wayOf0, wayOf2 + 1));
        due("not yet one", t.count(2), 2);
        t.hours(1);
        due("one", t.count(2), 1);
        return t.half(0, 8);
    }

    private static void waitsTheLonger() {
        about("TWO MERGE: it WAITS the longer of both");
        due("2 and 3", mergedWaits(1, 2, 0), 3);
        due("0 and 3", mergedWaits(1, 4, 0), 3);
        due("0 and 3, long", mergedWaits(1, 9, 0), 3);
        due("3 and 0", mergedWaits(5, 1, 0), 3);
        due("3 and 2", mergedWaits(3, 1, 0), 3);
        due("10 and 3", mergedWaits(1, 2, 9), 10);
        due("3 and 9", mergedWaits(5, 1, 9), 9);
        due("4 and 3", mergedWaits(1, 8, 9), 4);
        due("3 and 3", mergedWaits(1, 9, 9), 3);
        due("3 and 5", mergedWaits(9, 1, 9), 5);
    }

    private static void hourLessLeft() {
        about("AN HOUR (1): each HALF on a ROAD has an HOUR less left; with none it COMES");
        for (int length = 1; length <= 9; length++) {
            ForkTown t = with("c9(p=0)", 0, 0, 1, length);
            for (int hour = 1; hour <= length; hour++) {
                t.hours(1);
                due("left", t.half(0, 7), length + 1 - hour);
                due("on the road", t.half(0, 6), 0);
                due("at no place", t.half(0, 5), -2);
            }
            t.hours(1);
            due("there", t.half(0, 5), 1);
            due("on none", t.half(0, 6), -2);
            due("none left", t.half(0, 7), 0);
        }
    }

    private static void waitsOneLess() {
        about("AN HOUR (1): each that was AT a PLACE already and WAITS, WAITS one less");
        for (int w = 0; w <= 9; w++) {
            ForkTown t = with("c9(1=1);w" + w + "(p=1)", 0, 0, 1, 1, 1, 1, 2, 1);
            t.hours(2);
            due("not in the hour it comes", t.half(0, 8), w);
            for (int hour = 1; hour < w; hour++) {
                t.hours(1);
                due("one less", t.half(0, 8), w - hour);
                due("still there", t.half(0, 5), 1);
            }
            if (w > 0) {
                t.hours(1);
            }
            due("with none it goes", t.half(0, 6), 1);
            due("none", t.half(0, 8), 0);
        }
    }

    private static void mergeAtOnePlace() {
        about("AN HOUR (2): HALVES of one ONE that are AT one PLACE (also those that came)");
        ForkTown t = two("");
        t.hours(1);
        due("at two places: not", t.count(2), 2);
        due("one place", t.hours(1), 1);
        // on one road to one place, side by side: not before they are there
        t = with("c9(p=0)", 0, 0, 1, 3, 1, 0, 1, 3);
        t.hours(3);
        due("on roads: not", t.count(2), 2);
        due("there", t.hours(1), 1);
        // one that stays there, one that comes
        t = with("c9(p=0)", 0, 0, 1, 1, 1, 0, 1, 3);
        t.hours(3);
        due("one is there", t.count(2), 2);
        due("the other one came", t.hours(1), 1);
        // of two ONES: not
        t = town("");
        for (int one = 0; one < 4; one++) {
            t.comes(one, 15);
        }
        due("four ones at one place", t.hours(48), 4);
        due("none merged", t.count(9), 0);
    }

    private static void mergeByNumbers() {
        about("AN HOUR (2): by numbers: the lowest with the next one, then with the next");
        // three come to place 5 at once; e is asked of the elder one and of the number of the other one
        for (int bits = 0; bits < 8; bits++) {
            String e = ";e(y=1&f=0);e(y=2&f=1);e(z=4096&f=2)";
            ForkTown t = town("c9(1=1)" + e, 0, 0, 1, 1, 1, 0, 2, 2, 2, 1, 3, 1, 3, 1, 4, 1, 4, 3, 5, 1, 5, 4, 5, 1, 6, 2, 5, 1);
            t.comes(0, 0);
            t.hours(2);
            int[] known = new int[3];
            for (int f = 0; f < 3; f++) {
                for (int j = 0; j < 3; j++) {
                    t.learns(j, f, (bits >> j & 1) != 0);
                }
                boolean a = (bits & 1) != 0;
                boolean b = (bits & 2) != 0;
                boolean c = (bits & 4) != 0;
                int first = a == b || f == 0 ? bits & 1 : -2;
                known[f] = first == -2 ? bits >> 2 : (first == 1) == c || f == 1 ? first : -2;
            }
            t.hours(2);
            due("one", t.count(2), 1);
            for (int f = 0; f < 3; f++) {
                due("bits " + bits + ", fact " + f, t.half(0, 20 + f), known[f]);
            }
        }
    }

    /** One who knows a fact so (-1: not) comes to a NOTICE of it (-1: none). */
    private static void comesToNotice(int fact, int before, int so) {
        ForkTown t = with("c9(p=0)", 0, 0, 1, 1);
        t.notice(1, so < 0 ? -1 : fact, so == 1);
        t.notice(0, 3, true);
        t.hours(1);
        tell(t, 0, fact, before);
        t.hours(1);
        due("known", t.half(0, 20 + fact), so >= 0 ? so : before < 0 ? -2 : before);
        due("not where it came to in no hour", t.half(0, 23), -2);
        t.notice(1, 14, true);
        t.hours(9);
        due("not of one that stays", t.half(0, 34), -2);
    }

    private static void noticeKnown() {
        about("AN HOUR (3): of those that came (or with which one merged that came): a NOTICE there is known (as it stands there)");
        for (int before = -1; before < 2; before++) {
            for (int so = -1; so < 2; so++) {
                comesToNotice(0, before, so);
                comesToNotice(15, before, so);
            }
        }
        // one that stayed there knows it by the one that came, be its number higher or lower
        for (int first = 1; first <= 3; first += 2) {
            ForkTown t = with("c9(p=0)", 0, 0, 1, first, 1, 0, 1, 4 - first);
            t.hours(3);
            t.notice(1, 9, false);
            t.hours(1);
            due("one", t.count(2), 1);
            due("known", t.half(0, 29), 0);
        }
    }

    private static void owesMore() {
        about("AN HOUR (3): it owes b more");
        ForkTown t = with("c9(1=1);b7(p=1);b20(p=2)", 0, 0, 1, 1, 1, 1, 2, 1);
        due("came there in no hour", t.half(0, 9), 0);
        t.hours(1);
        due("on a road", t.half(0, 9), 0);
        t.hours(1);
        due("at 1", t.half(0, 9), 7);
        t.hours(1);
        due("at 2", t.half(0, 9), 27);
        t.hours(9);
        due("once", t.half(0, 9), 27);
        // merged ones owe it once
        t = two(";b5(p=3)");
        t.hours(2);
        due("once for both", t.half(0, 9), 5);
    }

    private static void waitsIfMore() {
        about("AN HOUR (3): it WAITS w (if that is more than it does)");
        int[] due = {3, 3, 3, 3, 4, 5, 6, 7, 8, 9};
        for (int w = 0; w <= 9; w++) {
            // 1 mourns 0 on its road: it comes with 3 hours to wait
            ForkTown t = town("c9(p=0);x10(p=1);w" + w + "(p=2)", 0, 0, 1, 1, 1, 0, 2, 3);
            t.comes(0, 0);
            t.hours(2);
            due("mourns", t.half(1, 8), 3);
            t.hours(1);
            due("not less on its road", t.half(1, 8), 3);
            t.hours(1);
            due("w" + w, t.half(1, 8), due[w]);
        }
    }

    private static void drawsOfThoseAtPlaces() {
        about("AN HOUR (4): of each that is AT a PLACE, by numbers: with a DRAW: below x it dies");
        // the same draws in the same order: who dies is seen by whom they are asked of
        for (int seed = 0; seed < 40; seed++) {
            ForkTown t = town("x5(1=1);c9(i=2)", 0, 2, 3, 9);
            for (int one = 0; one < 4; one++) {
                t.comes(one, 15 - one);
            }
            t.road(0, 13, 0, 9);
            law(t, "c9(i=2)");
            t.hours(1);
            law(t, "x5(1=1)");
            t.seed(seed);
            t.hours(1);
            int x = seed;
            for (int j = 0; j < 4; j++) {
                if (j == 2) {
                    due("on a road nobody dies", t.half(2, 3), 1);
                    continue;
                }
                x = (int) ((25173L * x + 13849) % 65536);
                due("seed " + seed + ", half " + j, t.half(j, 3), x % 10 < 5 ? 0 : 1);
            }
            due("no more draws", t.count(5), x);
        }
    }

    private static void drawsModulo() {
        about("DRAWS: X = (25173 X + 13849) modulo 65536: X modulo 10");
        ForkTown t = with("");
        long x = 1;
        for (int hour = 0; hour < 200; hour++) {
            t.hours(1);
            x = (25173 * x + 13849) % 65536;
            due("x", t.count(5), x);
        }
        for (int seed : new int[] {0, 1, 65535, 65534, 32768}) {
            for (int tenths = 0; tenths <= 10; tenths++) {
                ForkTown u = with("x" + tenths + "(1=1)");
                u.seed(seed);
                int draw = (int) ((25173L * seed + 13849) % 65536 % 10);
                due("draw", u.hours(1), draw < tenths ? 0 : 1);
            }
        }
        due("nobody there, no draw", new ForkTown().count(5), 1);
        t = new ForkTown();
        t.hours(48);
        due("nobody there, no draw", t.count(5), 1);
    }

    private static void mourning() {
        about("AN HOUR (4): each other one of its ONE that LIVES WAITS 3 more");
        ForkTown t = town("c9(p=0);x10(p=1)", 0, 0, 1, 1, 1, 0, 2, 1);
        t.comes(0, 0);
        t.comes(1, 7);
        t.hours(2);
        due("dead", t.half(0, 3), 0);
        due("not of itself", t.half(0, 8), 0);
        due("at a place", t.half(2, 8), 3);
        due("of another one", t.half(1, 8), 0);
        // two die in one hour: the second one mourned the first before
        t = town("c9(p=0|p=1);x10(p=3|p=4);w1(p=5)", 0, 0, 1, 1, 1, 0, 5, 2, 2, 1, 3, 1, 3, 1, 4, 1);
        t.comes(0, 0);
        t.hours(3);
        due("two died", t.count(8), 2);
        due("the first, as it was last", t.half(0, 8), 0);
        due("the second, as it was last", t.half(2, 8), 3);
        due("w and then 3 and 3", t.half(1, 8), 7);
    }

    private static void mostGladly() {
        about("AN HOUR (5): of the ROADS from there that with most c (above 0; of like ones the lowest)");
        ForkTown t = with("c0(1=1)", 0, 0, 1, 1, 31, 0, 2, 1);
        t.hours(5);
        due("none above 0: it stays", t.half(0, 5), 0);
        t = with("c1(r=31)", 0, 0, 1, 1, 31, 0, 2, 1);
        t.hours(1);
        due("1 is above 0", t.half(0, 6), 31);
        t = with("c98(r=0);c99(r=31)", 0, 0, 1, 1, 31, 0, 2, 1);
        t.hours(1);
        due("the most", t.half(0, 6), 31);
        due("d is 0: whole", t.count(1), 1);
        t = with("c98(r=0);c200(r=30);c99(r=31)", 0, 0, 1, 1, 30, 0, 3, 1, 31, 0, 2, 1);
        t.hours(1);
        due("like ones by the bound: the lowest", t.half(0, 6), 30);
        due("the other one", t.half(1, 6), 31);
        t = with("c9(1=1)", 5, 0, 1, 1, 6, 1, 0, 1);
        t.hours(1);
        due("only from there", t.half(0, 6), 5);
        t = with("c9(1=1)", 5, 1, 0, 1);
        t.hours(4);
        due("without a road it stays", t.half(0, 5), 0);
    }

    private static void partsByDoubt() {
        about("AN HOUR (5): if another ROAD has c above 0, and the most of these is less by its d at most, it parts");
        int[] others = {0, 1, 49, 50, 51};
        for (int other : others) {
            for (int d = 0; d <= 51; d++) {
                ForkTown t = with("c50(r=0);c" + other + "(r=1);d" + d + "(1=1)", 0, 0, 1, 1, 1, 0, 2, 1);
                t.hours(1);
                int less = Math.abs(50 - other);
                due("50 and " + other + ", d " + d, t.count(1), other > 0 && less <= d ? 2 : 1);
                due("the first", t.half(0, 6), other > 50 ? 1 : 0);
            }
        }
        // the most of the others, of like ones the lowest
        ForkTown t = with("c9(r=4);c8(r=2|r=3);c7(r=1);d1(1=1)", 1, 0, 1, 1, 2, 0, 2, 1, 3, 0, 3, 1, 4, 0, 4, 1);
        t.hours(1);
        due("the first", t.half(0, 6), 4);
        due("the other one", t.half(1, 6), 2);
        due("only two", t.count(1), 2);
    }

    private static void whatIsHalved() {
        about("AN HOUR (5): FACTS and COINS as it has them (debts are made twice), its PARENT being the first");
        ForkTown t = with("c9(1=1)", 0, 0, 1, 4, 1, 0, 2, 6);
        t.owes(0, 99999);
        for (int f = 0; f < 16; f++) {
            if (f % 3 > 0) {
                t.learns(0, f, f % 3 == 1);
            }
        }
        t.hours(1);
        int[] due = {0, 0, 0, 1, 2048, -2, 1, 6, 0, 99999, -2};
        for (int what = 0; what < due.length; what++) {
            due("what " + what, t.half(1, what), due[what]);
        }
        for (int f = 0; f < 16; f++) {
            due("fact " + f, t.half(1, 20 + f), f % 3 == 0 ? -2 : f % 3 == 1 ? 1 : 0);
            due("fact " + f, t.half(0, 20 + f), f % 3 == 0 ? -2 : f % 3 == 1 ? 1 : 0);
        }
        due("debts twice", t.half(0, 9), 99999);
        due("the first has none", t.half(0, 1), -2);
    }

    private static void goesWithoutWaiting() {
        about("AN HOUR (5): each that is AT a PLACE and does not WAIT");
        ForkTown t = with("c9(1=1);w1(p=1)", 0, 0, 1, 1, 1, 1, 2, 1);
        t.hours(2);
        due("waits 1: not", t.half(0, 5), 1);
        t.hours(1);
        due("waits 0: goes", t.half(0, 6), 1);
        // who mourns in (4) does not go in (5) of the same hour
        t = town("c9(p=0|p=2);x10(p=1)", 0, 0, 1, 1, 1, 0, 2, 1, 2, 2, 3, 1);
        t.comes(0, 0);
        t.hours(2);
        due("mourns", t.half(1, 8), 3);
        due("does not go", t.half(1, 5), 2);
        t.hours(2);
        due("does not go", t.half(1, 5), 2);
        t.hours(1);
        due("goes", t.half(1, 6), 2);
    }

    private static void hourIsOneMore() {
        about("AN HOUR (6): THE HOUR is one more, 0 at first, 999 at most");
        ForkTown t = with("c9(h=0);w9(h=3)", 0, 0, 1, 3);
        due("at first", t.count(0), 0);
        t.hours(1);
        due("asked as it was", t.half(0, 6), 0);
        due("one more", t.count(0), 1);
        t.hours(3);
        due("asked as it was", t.half(0, 8), 9);
        t = with("c9(h=998)", 0, 0, 1, 3);
        pass(t, 998);
        due("stays", t.half(0, 5), 0);
        due("the last one", t.hours(1), 1);
        due("went", t.half(0, 6), 0);
        due("999", t.count(0), 999);
    }

    private static void keptThings() {
        about("KEPT: HALVES, THE HOUR, what is remembered, X; UNDONE: as they were KEPT last");
        ForkTown kept = fullTown();
        kept.keep();
        ForkTown t = fullTown();
        t.keep();
        t.hours(48);
        t.comes(1, 5);
        t.learns(0, 14, true);
        t.owes(0, 99999);
        t.seed(3);
        t.hours(3);
        t.undo();
        for (int what : new int[] {0, 1, 2, 5, 7, 8, 9}) {
            due("count " + what, t.count(what), kept.count(what));
        }
        for (int j = 0; j < 9; j++) {
            for (int what = 0; what < 36; what++) {
                due("half " + j + ", what " + what, t.half(j, what), kept.half(j, what));
            }
        }
        for (int j = 0; j < 9; j++) {
            for (int hour = 0; hour <= 8; hour++) {
                due("half " + j + " was at " + hour, t.was(j, hour), kept.was(j, hour));
            }
        }
        due("as many in a while", t.tried(20, 1), kept.tried(20, 1));
        due("the next number", t.comes(1, 0), 9);
        // roads, notices, the law and the tape are not kept
        t = with("c9(1=1)", 0, 0, 1, 1);
        t.keep();
        t.road(0, 2, 3, 4);
        t.notice(3, 3, true);
        law(t, "c8(1=1);c7(1=1)");
        feed(t, 1);
        due("undone", t.undo(), true);
        due("the road", t.count(20), 2);
        due("the notice", t.count(143), 103);
        due("the law", t.count(3), 2);
        due("the tape", t.count(4), 20);
    }

    private static void seedOfDraws() {
        about("DRAWS: X is THE SEED at first, 1; by the DRAWS that will come");
        ForkTown t = with("x1(1=1)");
        int hours = 0;
        for (long x = 1; hours == 0 || x % 10 >= 1; hours++) {
            x = (25173 * x + 13849) % 65536;
        }
        due("lives so long", t.tried(hours - 1, 0), 1);
        due("dies then", t.tried(hours, 0), 0);
        due("tried: no draws are made", t.count(5), 1);
        due("lives so long", t.hours(hours - 1), 1);
        due("dies then", t.hours(1), 0);
        t = with("x1(1=1)");
        t.seed(1);
        due("as by 1", t.tried(hours, 3), 1);
        due("as by 1", t.tried(hours - 1, 3), 0);
    }
}
