/** What 'Terms' says of what can be asked: forks and plans, memories, roads, histories, bread and votes, at their bounds. */
public final class BoundsOfAnswers extends TownTest {
    private BoundsOfAnswers() {
    }

    public static void main(String[] args) {
        triedChangesNothing();
        triedByKinds();
        forksBehindHours();
        forksBy64Bits();
        planPlacesOfDoubt();
        planLowestEight();
        planAllEight();
        planWithinHours();
        planPlacesComeTo();
        planOneAgain();
        planFewestHours();
        planNobodyDies();
        joinedTwoToFive();
        joinedClash();
        joinedAsTheyAreNow();
        joinedLeastRow();
        joinedRows();
        joinedNotLast();
        chosenAboveNone();
        chosenRoundedDown();
        chosenNoneGainsMore();
        seenTillBorn();
        seenNotMerged();
        seenByAll();
        meetFromAll();
        builtGroups();
        closedFewest();
        historyPlaces();
        historyHours();
        historyLater();
        historySigns();
        historyJudged();
        historyRemembered();
        breadByWeight();
        breadRests();
        breadOfOne();
        voteByWeight();
        checkedWeights();
        callsTo512();
        end();
    }

    private static void triedChangesNothing() {
        about("TRIED are n HOURS (1 to 48) by the DRAWS that will come; nothing is changed");
        for (int n : new int[] {1, 2, 5, 20, 47, 48}) {
            ForkTown t = fullTown();
            int[] tried = new int[40];
            for (int what = 0; what < 40; what++) {
                tried[what] = t.tried(n, what);
            }
            int parted = t.count(1);
            int forgotten = t.count(7);
            int died = t.count(8);
            int merged = t.count(9);
            due("live", t.hours(n), tried[0]);
            due("parted", t.count(1) - parted, tried[1]);
            due("merged", t.count(9) - merged, tried[2]);
            due("died", t.count(8) - died, tried[3]);
            due("forgotten", t.count(7) - forgotten, tried[4]);
            int[] sums = sumsOf(t);
            for (int i = 0; i < 4; i++) {
                due("of " + i, sums[i], tried[10 + i]);
                due("weight of " + i, sums[4 + i], tried[20 + i]);
                due("coins of " + i, sums[8 + i], tried[30 + i]);
            }
        }
    }

    /** How many HALVES of each ONE live, then their WEIGHT, then their COINS. */
    private static int[] sumsOf(ForkTown t) {
        int[] sums = new int[12];
        for (int j = 0; j < t.count(1); j++) {
            if (t.half(j, 3) == 1) {
                int one = t.half(j, 0);
                sums[one]++;
                sums[4 + one] += t.half(j, 4);
                sums[8 + one] += t.half(j, 9);
            }
        }
        return sums;
    }

    private static void triedByKinds() {
        about("TRIED: in them alone, not so far");
        ForkTown t = diamond("c9(1=1);b3(1=1)");
        t.comes(0, 0);
        due("nobody else", t.tried(1, 11), 0);
        due("parted in the first", t.tried(1, 1), 1);
        due("merged not before the third", t.tried(2, 2), 0);
        due("merged in the third", t.tried(3, 2), 1);
        t.hours(1);
        t.learns(0, 15, true);
        t.learns(1, 15, false);
        due("parted before", t.tried(48, 1), 0);
        due("forgotten", t.tried(2, 4), 1);
        t.hours(2);
        due("merged before", t.tried(48, 2), 0);
        due("forgotten before", t.tried(48, 4), 0);
        law(t, "x10(1=1)");
        due("dies", t.tried(1, 3), 1);
        t.hours(1);
        due("died before", t.tried(48, 3), 0);
        due("coins of the dead", t.tried(1, 30), 0);
        due("weight of the dead", t.tried(1, 20), 0);
    }

    private static void forksBehindHours() {
        about("BY ALL FORKS: how many behind n HOURS (0 to 60); without a ROAD he stays");
        for (int length = 1; length <= 9; length++) {
            ForkTown t = town("", 0, 0, 1, length, 1, 0, 2, 9, 2, 1, 3, 1, 3, 1, 4, 1, 4, 1, 5, 1);
            due("now", t.byForks(0, 0), 1);
            for (int n = 1; n <= length; n++) {
                due("behind " + n, t.byForks(0, n), 2);
            }
            due("the first comes and parts", t.byForks(0, length + 1), 4);
            due("all come to rest", t.byForks(0, 60), 4);
            due("without a road", t.byForks(5, 60), 1);
        }
        ForkTown t = town("c9(1=1);x10(1=1)", 0, 0, 1, 1, 1, 0, 1, 1);
        due("two roads to one place", t.byForks(0, 9), 2);
        due("the law is not asked", t.byForks(0, 1), 2);
    }

    private static void forksBy64Bits() {
        about("BY ALL FORKS: by 64 bits, as the machine does");
        for (int roads = 1; roads <= 31; roads += 2) {
            ForkTown t = new ForkTown();
            for (int r = 0; r < roads; r++) {
                t.road(r, 0, 1, 1);
            }
            t.road(31, 1, 0, 1);
            long want = 1;
            for (int n = 1; n <= 60; n++) {
                want *= n % 2 == 1 ? roads : 1;
                due(roads + " roads, behind " + n, t.byForks(0, n), want);
            }
        }
    }

    private static void planPlacesOfDoubt() {
        about("A PLAN: PLACES from which two ROADS or more go, where his d is 99, at all others 0");
        ForkTown t = with("c9-r(1=1);d50(1=1)", 0, 0, 1, 1, 1, 0, 2, 1, 2, 1, 3, 1, 3, 2, 3, 1);
        due("by doubt", t.plan(0, 14, 9, 1), 1);
        due("hours", t.plan(0, 14, 9, 0), 3);
        due("without doubt he does not part by THE LAW's d", t.plan(0, 2, 9, 2), 1);
        t.road(1, 5, 2, 1);
        due("one road alone", t.plan(0, 14, 9, 0), -2);
        t.road(4, 0, 2, 1);
        due("two roads, less by 4", t.plan(0, 14, 9, 1), 1);
        law(t, "c9-r(r<4)");
        due("c of the other one is 0", t.plan(0, 14, 9, 0), -2);
        law(t, "c99(r<4);c1(1=1)");
        due("less by 98", t.plan(0, 14, 9, 1), 1);
        law(t, "c9(1=1)");
        due("of like ones he parts by a d of 0", t.plan(0, 14, 9, 1), 0);
        due("of like ones he parts", t.plan(0, 14, 9, 2), 2);
    }

    /** ONE 0 at place 8, where he must doubt; so many places below have two ROADS. */
    private static ForkTown atFork(int below) {
        ForkTown t = with("c9-r%2(1=1)", 20, 9, 11, 1, 22, 10, 11, 1);
        t.road(24, 8, 9, 1);
        t.road(25, 8, 10, 1);
        for (int p = 0; p < below; p++) {
            t.road(2 * p, p, 12, 1);
            t.road(2 * p + 1, p, 13, 1);
        }
        law(t, "x10(i=0)");
        t.hours(1);
        law(t, "c9-r%2(1=1)");
        t.comes(1, 8);
        return t;
    }

    private static void planLowestEight() {
        about("A PLAN: the lowest 8 of them");
        for (int below = 0; below < 8; below++) {
            due(below + " below", atFork(below).plan(1, 1 << 10, 9, 0), 3);
            due(below + " below", atFork(below).plan(1, 1 << 10, 9, 1), 1 << 8);
            due(below + " below", atFork(below).plan(1, 1 << 9, 9, 1), 0);
        }
        ForkTown t = atFork(7);
        t.road(14, 7, 12, 1);
        due("one road alone does not count", t.plan(1, 1 << 10, 9, 1), 1 << 8);
        t.road(15, 7, 12, 2);
        due("two roads to one place do", t.plan(1, 1 << 10, 9, 0), -2);
        t = with("c9-r%2(1=1)", 31, 0, 15, 1, 24, 9, 12, 1, 25, 9, 13, 1, 26, 12, 14, 1, 28, 13, 14, 1);
        for (int p = 1; p < 8; p++) {
            t.road(2 * p, p, 15, 1);
            t.road(2 * p + 1, p, 14, 1);
        }
        t.comes(1, 9);
        due("seven, one road alone, and the eighth", t.plan(1, 1 << 13, 9, 1), 1 << 9);
        t.road(0, 8, 15, 1);
        t.road(1, 8, 14, 1);
        due("eight, one road alone, and the ninth", t.plan(1, 1 << 13, 9, 1), -2);
        due("the ninth", atFork(8).plan(1, 1 << 10, 9, 0), -2);
        due("the ninth, no doubt needed", atFork(8).plan(1, 1 << 9, 9, 0), 2);
    }

    private static void planAllEight() {
        about("A PLAN: PLACES of doubt, all eight of them");
        // of each fork p the other road leads over 8 + p; who was not at 8 knows no FACT and stays at 7
        ForkTown t = town("c9-r%2(p<7|p>7|m>0)");
        t.notice(8, 0, true);
        for (int p = 0; p < 8; p++) {
            int next = p < 7 ? p + 1 : 8;
            t.road(2 * p, p, next, 2);
            t.road(2 * p + 1, p, 8 + p, 1);
            t.road(16 + p, 8 + p, next, 1);
        }
        t.comes(0, 0);
        due("hours", t.plan(0, 0xff00, 48, 0), 17);
        due("doubts", t.plan(0, 0xff00, 48, 1), 255);
        due("two at most", t.plan(0, 0xff00, 48, 2), 2);
        due("just in time", t.plan(0, 0xff00, 17, 1), 255);
        due("too late", t.plan(0, 0xff00, 16, 1), -2);
        due("without 15", t.plan(0, 0x7f00, 48, 1), 127);
        due("without 9 and 14", t.plan(0, 0xbd00, 48, 1), 255 - 2 - 64);
    }

    private static void planWithinHours() {
        about("A PLAN: within n HOURS (1 to 48)");
        ForkTown t = with("c9(1=1)", 0, 0, 1, 9, 1, 1, 2, 9, 2, 2, 3, 9, 3, 3, 4, 9, 4, 4, 5, 6, 5, 5, 6, 1);
        for (int p = 1; p < 5; p++) {
            int hours = 9 * p + 1;
            due("place " + p, t.plan(0, 1 << p, 48, 0), hours);
            due("place " + p + ", just in time", t.plan(0, 1 << p, hours, 0), hours);
            due("place " + p + ", too late", t.plan(0, 1 << p, hours - 1, 0), -2);
        }
        due("42 and 1", t.plan(0, 1 << 5, 48, 0), 43);
        t.road(4, 4, 5, 9);
        due("45 and 1", t.plan(0, 1 << 5, 48, 0), 46);
        due("46 and 1", t.plan(0, 1 << 6, 48, 0), 47);
        t.road(5, 5, 6, 2);
        due("the last hour", t.plan(0, 1 << 6, 48, 0), 48);
        t.road(5, 5, 6, 3);
        due("not in 48", t.plan(0, 1 << 6, 48, 0), -2);
    }

    private static void planPlacesComeTo() {
        about("A PLAN: all told PLACES have been come to (or he was there)");
        ForkTown t = with("c9(1=1)", 0, 0, 1, 1, 1, 1, 2, 1);
        due("none", t.plan(0, 0, 5, 0), 0);
        due("where he is", t.plan(0, 1, 5, 0), 0);
        due("one more", t.plan(0, 2, 5, 0), 2);
        due("with where he is", t.plan(0, 3, 5, 0), 2);
        due("two more", t.plan(0, 7, 5, 0), 3);
        due("nowhere", t.plan(0, 1 << 15, 48, 0), -2);
        t.hours(3);
        due("where he was before", t.plan(0, 1, 40, 0), -2);
        for (int place : new int[] {0, 6, 15}) {
            due("others do not count", twoWhoCome(place).plan(0, 1 << place, 40, 0), 10);
            due("but his own", twoWhoCome(place).plan(1, 1 << place, 40, 0), 2);
            due("others do not count, too late", twoWhoCome(place).plan(0, 1 << place, 9, 0), -2);
        }
    }

    /** ONE 0 has nine hours to a place, ONE 1 has one. */
    private static ForkTown twoWhoCome(int place) {
        ForkTown t = town("c9(1=1)", 0, 3, place, 9, 1, 5, place, 1);
        t.comes(0, 3);
        t.comes(1, 5);
        return t;
    }

    private static void planOneAgain() {
        about("A PLAN: behind an HOUR by which that is so he is one again");
        // over 1 it is shorter: he waits for himself at 3
        ForkTown t = with("c9(p<3)", 0, 0, 1, 1, 1, 0, 2, 1, 2, 1, 3, 1, 3, 2, 3, 9);
        due("all have been come to", t.plan(0, 14, 48, 0), 11);
        due("two at most", t.plan(0, 14, 48, 2), 2);
        due("not yet", t.plan(0, 14, 10, 0), -2);
        t.road(3, 2, 4, 9);
        due("never one again", t.plan(0, 6, 48, 0), -2);
        // one again in an hour in which he parts again does not count
        t = with("c9(1=1)", 0, 0, 1, 1, 1, 0, 2, 1, 2, 1, 0, 1, 3, 2, 0, 1);
        due("always two", t.plan(0, 6, 48, 0), -2);
        // on a ROAD he is one, too
        t = with("c9(p<3);c9(r=9)", 0, 0, 1, 1, 1, 0, 2, 1, 2, 1, 3, 1, 3, 2, 3, 1, 9, 3, 5, 9);
        due("one on a road", t.plan(0, 14, 48, 0), 3);
    }

    private static void planFewestHours() {
        about("A PLAN: the fewest HOURS; of like ones the least bits");
        // place 4 is come to over 1 or over 2, by doubt at 1 or at 2; two at once at 0 are not needed
        ForkTown t = with("c9-r%2(r<2);c9(r=2|r=4);c8(1=1)", 0, 0, 1, 1, 1, 0, 2, 1, 2, 1, 3, 1, 3, 1, 4, 1, 4, 2, 3, 1, 5, 2, 4, 1, 6, 3, 5, 2, 7, 4, 5, 2);
        due("fewest", t.plan(0, 1 << 4, 20, 0), 5);
        due("least bits", t.plan(0, 1 << 4, 20, 1), 2);
        due("two at most", t.plan(0, 1 << 4, 20, 2), 2);
        // a shorter way by greater bits
        t = with("c9-r%2(1=1)", 0, 0, 1, 1, 1, 0, 2, 9, 2, 1, 3, 1, 3, 1, 4, 1, 4, 4, 3, 1, 5, 2, 3, 1, 6, 2, 4, 1, 8, 3, 5, 3);
        due("doubt at 1", t.plan(0, 1 << 4, 48, 1), 2);
        int hours = t.plan(0, 1 << 4, 48, 0);
        due("soonest", t.plan(0, 1 << 4, hours - 1, 0), -2);
        due("no doubt at all", t.plan(0, 1 << 3, 48, 1), 0);
        // place 8 is come to by doubt at 1 in 3 and as many hours as the road is long, by doubt at 2 in 5
        for (int length = 1; length <= 9; length++) {
            t = with("c9-r%2(1=1)", 0, 0, 1, 1, 2, 1, 2, 1, 3, 1, 8, length, 4, 2, 9, 1, 5, 2, 8, 1, 6, 8, 9, 1);
            due("fewest", t.plan(0, 1 << 8, 48, 0), Math.min(3 + length, 5));
            due("least bits of the fewest", t.plan(0, 1 << 8, 48, 1), length <= 2 ? 2 : 4);
            due("just in time", t.plan(0, 1 << 8, Math.min(3 + length, 5), 1), length <= 2 ? 2 : 4);
        }
    }

    private static void planNobodyDies() {
        about("A PLAN: in place of THE LAW's d; nobody dies; nothing is changed");
        ForkTown t = with("c9-r(1=1);d99(1=1);x10(1=1)", 0, 0, 1, 1, 1, 0, 2, 1, 2, 1, 3, 1, 3, 2, 3, 1);
        due("by no doubt he is one", t.plan(0, 8, 9, 1), 0);
        due("one at most", t.plan(0, 8, 9, 2), 1);
        due("hours", t.plan(0, 8, 9, 0), 3);
        due("x", t.count(5), 1);
        due("hour", t.count(0), 0);
        due("lives", t.count(2), 1);
        due("dies then", t.hours(1), 0);
        due("who is dead has none", t.plan(0, 8, 9, 0), -1);
    }

    /** A ONE of five HALVES, who know nothing. */
    private static ForkTown five(String text) {
        ForkTown t = town("c9(1=1)");
        for (int p = 0; p < 4; p++) {
            t.road(2 * p, p, p + 1, 1);
            t.road(2 * p + 1, p, 15, 9);
        }
        t.comes(0, 0);
        t.hours(4);
        law(t, text);
        return t;
    }

    private static void joinedTwoToFive() {
        about("JOINED: told HALVES (2 to 5): in which order most FACTS are known in the end");
        ForkTown t = five("c1(1=1)");
        due("none known", joined(t, -1, 4, 3), 0);
        for (int f = 0; f < 16; f++) {
            t.learns(f % 5, f, true);
        }
        due("of two", joined(t, -1, 0, 1), 7);
        due("of three", joined(t, -1, 0, 1, 2), 10);
        due("of four", joined(t, -1, 0, 1, 2, 3), 13);
        due("all sixteen", joined(t, -1, 0, 1, 2, 3, 4), 16);
        due("nothing is changed", t.half(0, 21), -2);
    }

    private static void joinedClash() {
        about("JOINED: what both know otherwise is FORGOTTEN, till another one knows it");
        for (int n = 2; n <= 5; n++) {
            for (int bits = 0; bits < 1 << n; bits++) {
                // with no e a fact is known in the end if all agree, or if two clash and a third comes behind them
                boolean same = bits == 0 || bits == (1 << n) - 1;
                for (int fact : new int[] {0, 7, 15}) {
                    ForkTown t = five("c1(1=1)");
                    int[] row = new int[n];
                    for (int j = 0; j < n; j++) {
                        row[j] = j;
                        t.learns(j, fact, (bits >> j & 1) != 0);
                    }
                    due(n + " by " + bits, joined(t, -1, row), same || n > 2 ? 1 : 0);
                }
            }
        }
    }

    private static void joinedAsTheyAreNow() {
        about("JOINED: e asked of the HALVES that have these numbers, each as it is now; the elder one by numbers");
        int[] weights = {256, 2048, 1024, 512, 256};
        for (int a = 0; a < 5; a++) {
            for (int b = a + 1; b < 5; b++) {
                ForkTown t = five("e(j=" + a + "&y=" + b + "&z=" + weights[a] + "&n=5&m=1&o=0&i=0&f=7&h=4)");
                t.learns(a, 7, true);
                t.learns(b, 7, false);
                due(a + " is believed", joined(t, -1, a, b), 1);
                due(a + " is believed", joined(t, -1, b, a), 1);
                t.owes(b, 5);
                due("not by what the other one owes", joined(t, -1, b, a), 1);
                t.owes(a, 5);
                due("by what it owes itself", joined(t, -1, b, a), 0);
            }
        }
        ForkTown onRoads = five("e(p=0)");
        onRoads.learns(1, 7, true);
        onRoads.learns(2, 7, false);
        due("on a ROAD p is not told: 0", joined(onRoads, -1, 1, 2), 1);
        // the group bears its lowest number, but is asked as that half is now: it knows one fact, not two
        ForkTown t = five("e(j=0&y=2&m=1)");
        t.learns(0, 7, true);
        t.learns(1, 3, true);
        t.learns(2, 7, false);
        due("as it is now", joined(t, -1, 0, 1, 2), 2);
        due("in the least row", joined(t, 1, 2, 1, 0), 1);
    }

    private static void joinedLeastRow() {
        about("JOINED: of like ones the least row");
        for (int n = 2; n <= 5; n++) {
            ForkTown t = five("c1(1=1)");
            int[] row = new int[n];
            for (int i = 0; i < n; i++) {
                row[i] = 4 - i;
            }
            for (int i = 0; i < n; i++) {
                due(n + " halves, place " + i, joined(t, i, row), 5 - n + i);
            }
            due("behind them", joined(t, n, row), -3);
        }
        // two know it so, two not so: the like ones must come together
        ForkTown t = five("c1(1=1)");
        t.learns(0, 7, true);
        t.learns(1, 7, false);
        t.learns(4, 7, true);
        int[] three = {0, 1, 2, 3, 4};
        for (int i = 0; i < 5; i++) {
            due("three know it, place " + i, joined(t, i, 4, 3, 2, 1, 0), three[i]);
        }
        t.learns(2, 7, false);
        int[] four = {0, 3, 4, 1, 2};
        due("four know it", joined(t, -1, 0, 1, 2, 3, 4), 1);
        for (int i = 0; i < 5; i++) {
            due("four know it, place " + i, joined(t, i, 4, 3, 2, 1, 0), four[i]);
        }
    }

    private static void joinedRows() {
        about("JOINED: in which order most FACTS are known in the end: the last two and the first may change places");
        int[][] due = {{0, 1, 2}, {0, 1, 2}, {0, 2, 1}};
        for (int odd = 0; odd < 3; odd++) {
            ForkTown t = five("c1(1=1)");
            int other = (odd + 1) % 3;
            for (int j = 0; j < 3; j++) {
                t.learns(j, 0, j != odd);
            }
            due("fact 0", joined(t, -1, 2, 1, 0), 1);
            for (int i = 0; i < 3; i++) {
                due(odd + " must be among the first two, place " + i, joined(t, i, 2, 1, 0), due[odd][i]);
            }
            for (int j = 0; j < 3; j++) {
                t.learns(j, 1, j == other);
            }
            due("both facts", joined(t, -1, 0, 1, 2), 2);
            due("both must be, place 0", joined(t, 0, 0, 1, 2), Math.min(odd, other));
            due("both must be, place 1", joined(t, 1, 0, 1, 2), Math.max(odd, other));
            due("both must be, place 2", joined(t, 2, 0, 1, 2), 3 - odd - other);
        }
    }

    private static void joinedNotLast() {
        about("JOINED: who alone knows a FACT otherwise must not be the last one; of like ones the least row");
        for (int n = 3; n <= 5; n++) {
            for (int odd = 0; odd < n; odd++) {
                // as many FACTS, each known otherwise by one of the highest
                ForkTown t = five("c1(1=1)");
                int[] told = new int[n];
                for (int j = 0; j < n; j++) {
                    told[j] = n - 1 - j;
                    for (int k = 0; k < odd; k++) {
                        t.learns(j, k, j == n - 1 - k);
                    }
                }
                due("all known", joined(t, -1, told), odd);
                for (int i = 0; i < n; i++) {
                    int last = n - 1 - odd;
                    due(n + " halves, " + odd + " facts, place " + i, joined(t, i, told), i == n - 1 ? last : i < last ? i : i + 1);
                }
            }
        }
    }

    /** Two ONES at place 0, with three roads from there. */
    private static ForkTown choosing(String text) {
        ForkTown t = town(text, 0, 0, 1, 1, 1, 0, 2, 1, 31, 0, 3, 1, 9, 4, 0, 1);
        t.comes(0, 0);
        t.comes(1, 0);
        return t;
    }

    private static void chosenAboveNone() {
        about("ROADS CHOSEN: c above 0 for it");
        due("none of both", choosing("c0(1=1)").chosen(0, 1, 0), 0);
        due("none of one", choosing("c9(i=0)").chosen(0, 1, 0), 0);
        due("none of the other one", choosing("c9(i=1)").chosen(0, 1, 0), 0);
        due("1 of both", choosing("c1(r=31)").chosen(0, 1, 0), 1);
        due("1 of both: which", choosing("c1(r=31)").chosen(0, 1, 1), 31);
        due("1 of both: which", choosing("c1(r=31)").chosen(0, 1, 2), 31);
        due("below 0 is 0", choosing("c1(r=31);c0-5(1=1)").chosen(0, 1, 0), 1);
        due("roads from elsewhere are none", choosing("c1(r=9)").chosen(0, 1, 0), 0);
        due("road 0", choosing("c99(r=0&i=0);c99(r=31&i=1)").chosen(0, 1, 1), 0);
        due("road 31", choosing("c99(r=0&i=0);c99(r=31&i=1)").chosen(0, 1, 2), 31);
    }

    private static void chosenRoundedDown() {
        about("ROADS CHOSEN: each gains c, but half of it (rounded down) if they choose the same");
        for (int c = 1; c <= 9; c++) {
            for (int other = 1; other <= 9; other++) {
                int same = c / 2 >= other ? 1 : 0;
                int others = other / 2 >= c ? 1 : 0;
                int apart = other >= c / 2 && c >= other / 2 ? 2 : 0;
                due(c + " and " + other, choosing("c" + c + "(r=0);c" + other + "(r=1)").chosen(0, 1, 0), same + others + apart);
            }
        }
    }

    private static void chosenNoneGainsMore() {
        about("ROADS CHOSEN: twos at which neither gains more by another ROAD of its own alone: how many; the first");
        for (int i = 0; i < 2; i++) {
            due("the one gains more by 1 above half", choosing("c9(r=0);c5(r=1&i=" + i + ");c4(r=1)").chosen(0, 1, 0), 2);
            due("the one gains no more by half", choosing("c9(r=0);c4(r=1&i=" + i + ")").chosen(0, 1, 0), 2);
            due("the one gains more", choosing("c9(r=0);c5(r=1&i=" + i + ")").chosen(0, 1, 0), 1);
        }
        due("as much is not more", choosing("c8(r=0);c4(r=1)").chosen(0, 1, 0), 3);
        due("the first", choosing("c8(r=0);c4(r=1)").chosen(0, 1, 2), 0);
        due("one more is more", choosing("c8(r=0);c5(r=1)").chosen(0, 1, 0), 2);
        due("the first", choosing("c8(r=0);c5(r=1)").chosen(0, 1, 1), 0);
        due("the first", choosing("c8(r=0);c5(r=1)").chosen(0, 1, 2), 1);
        due("six of nine", choosing("c7(1=1)").chosen(0, 1, 0), 6);
        due("the other one is asked for itself", choosing("c8(r=0&i=0);c1(r=1&i=0);c2(r=0&i=1);c9(r=1&i=1)").chosen(0, 1, 0), 1);
        due("the other one is asked for itself", choosing("c8(r=0&i=0);c1(r=1&i=0);c2(r=0&i=1);c9(r=1&i=1)").chosen(0, 1, 2), 1);
    }

    private static void seenTillBorn() {
        about("WHO IT WAS: HALVES that were there then, they or the one they parted from till they were born");
        // 0 waits at 1 for two hours; 1 is born in hour 3 at 1
        ForkTown t = with("c9(p=0);c9(p=1);w2(p=1)", 0, 0, 1, 1, 1, 1, 2, 3, 2, 1, 3, 3);
        t.hours(5);
        due("born", t.half(1, 2), 3);
        due("when that hour began", t.was(1, 3), 1);
        due("behind it", t.was(1, 4), -2);
        due("both", whoWas(t, 0, 3, 1), 2);
        due("both", whoWas(t, 0, 0, 0, 2, 1, 3, 1), 2);
        due("on roads: none", whoWas(t, 0, 4, 1), 0);
        t.hours(3);
        due("the second alone", whoWas(t, 0, 3, 1, 7, 3), 1);
        due("the second alone", whoWas(t, 1, 3, 1, 7, 3), 1);
        due("the first alone", whoWas(t, 1, 3, 1, 7, 2), 0);
        due("neither", whoWas(t, 1, 7, 2, 8, 3), -2);
    }

    private static void seenNotMerged() {
        about("WHO IT WAS: not those that merged into them; of all that have been");
        ForkTown t = with("c9(p<3);w1(p<3)", 0, 0, 1, 1, 1, 0, 2, 1, 2, 1, 3, 1, 3, 2, 3, 1);
        t.hours(6);
        due("merged", t.half(1, 10), 0);
        due("the merged one was at 2", whoWas(t, 1, 2, 2), 1);
        due("it was at 3 no more", whoWas(t, 0, 2, 2, 5, 3), 0);
        due("the other one was not at 2", whoWas(t, 0, 2, 1, 5, 3), 1);
        law(t, "x10(1=1)");
        t.hours(1);
        due("the dead one was there when that hour began", whoWas(t, 0, 6, 3), 1);
        due("and no more", whoWas(t, 0, 7, 3), 0);
    }

    private static void seenByAll() {
        about("WHO IT WAS: a HALF of some ONE: how many, the first");
        ForkTown t = new ForkTown();
        for (int one = 0; one < 4; one++) {
            t.comes(3 - one, 7);
        }
        due("now, before any hour", whoWas(t, 0, 0, 7), 4);
        t.hours(1);
        due("four", whoWas(t, 0, 0, 7, 1, 7), 4);
        due("the first by number", whoWas(t, 1, 0, 7), 0);
        due("none", whoWas(t, 0, 0, 7, 1, 8), 0);
        due("the same one twice", whoWas(t, 0, 1, 7, 1, 7), 4);
        due("not in the order of hours", whoWas(t, 0, 1, 7, 0, 7), 4);
    }

    private static void meetFromAll() {
        about("WHERE ALL CAN MEET: from all PLACES at which HALVES of a ONE are (or to which they go)");
        ForkTown t = with("c9(p=0)", 0, 0, 1, 2, 1, 0, 2, 5, 2, 1, 3, 1, 3, 2, 4, 1, 4, 4, 3, 1, 31, 3, 15, 9);
        due("at 0", t.meet(0), 31 | 1 << 15);
        t.hours(1);
        due("to which they go", t.meet(0), 8 | 1 << 15);
        t.hours(3);
        due("one is there", t.meet(0), 8 | 1 << 15);
        t.road(1, 5, 6, 1);
        due("to where it goes then", t.meet(0), 0);
        t.hours(5);
        due("there", t.meet(0), 0);
        t.road(5, 6, 1, 1);
        due("back", t.meet(0), 2 | 8 | 1 << 15);
    }

    private static void builtGroups() {
        about("BUILT: groups of PLACES from which one does not come out again, less 1");
        for (int p = 0; p < 16; p++) {
            ForkTown one = town("", 0, (p + 1) % 16, p, 1);
            due("one group", one.built(1), 1);
            due("less 1", one.built(0), 0);
            due("place " + p + " alone", one.built(2), 1 << p);
        }
        ForkTown t = new ForkTown();
        for (int p = 0; p < 16; p += 2) {
            t.road(p, p, p + 1, 1);
            due("each a group", t.built(1), p / 2 + 1);
            due("less 1", t.built(0), p / 2);
            due("the group with the lowest place", t.built(2), 2);
        }
        for (int p = 0; p < 16; p += 2) {
            t.road(p + 1, p + 1, p, 1);
            due("both of two", t.built(2), 3);
        }
        due("eight groups", t.built(1), 8);
        t.road(16, 0, 2, 1);
        due("seven", t.built(1), 7);
        due("the group with the lowest place", t.built(2), 12);
        for (int p = 2; p < 16; p += 2) {
            t.road(16 + p, p, (p + 2) % 16, 1);
        }
        due("all are one", t.built(1), 1);
        due("nothing to build", t.built(0), 0);
        due("all places", t.built(2), 65535);
    }

    private static void closedFewest() {
        about("CLOSED: the fewest PLACES (neither of both); of like ones the least bits");
        for (int many = 0; many <= 14; many++) {
            ForkTown t = new ForkTown();
            for (int p = 0; p < many; p++) {
                t.road(2 * p, 14, p, 1);
                t.road(2 * p + 1, p, 15, 1);
            }
            due(many + " between", t.closed(14, 15, 0), many);
            due(many + " between", t.closed(14, 15, 1), (1 << many) - 1);
            due("not back", t.closed(15, 14, 0), 0);
        }
        ForkTown t = town("", 0, 0, 5, 1, 1, 5, 4, 1, 2, 4, 3, 1, 3, 3, 15, 1);
        due("one of three", t.closed(0, 15, 1), 1 << 3);
        due("one of two", t.closed(0, 3, 1), 1 << 4);
        due("one of one", t.closed(0, 4, 1), 1 << 5);
        due("none of none", t.closed(0, 5, 0), -2);
        // place 0 between, and as either end
        t = town("", 0, 1, 0, 1, 1, 0, 3, 1, 2, 3, 2, 1, 3, 15, 8, 1, 4, 8, 0, 1, 5, 15, 9, 1, 6, 9, 0, 1);
        due("place 0 of two", t.closed(1, 2, 0), 1);
        due("place 0 of two", t.closed(1, 2, 1), 1);
        due("to place 0", t.closed(15, 0, 0), 2);
        due("to place 0", t.closed(15, 0, 1), 1 << 8 | 1 << 9);
        due("from place 0", t.closed(0, 2, 1), 1 << 3);
        due("over place 0, over which all go", t.closed(15, 3, 1), 1);
        // two by greater bits are worse than one by the greatest
        t = town("", 0, 0, 1, 1, 1, 0, 2, 1, 2, 1, 14, 1, 3, 2, 14, 1, 4, 14, 15, 1);
        due("one", t.closed(0, 15, 0), 1);
        due("one", t.closed(0, 15, 1), 1 << 14);
        due("two", t.closed(0, 14, 1), 6);
    }

    private static void historyPlaces() {
        about("HISTORY: a PLACE (0 to 15, one or two digits), FAULT 3 at its first digit");
        ForkTown t = with("");
        for (int place = 0; place < 100; place++) {
            String two = (char) ('0' + place / 10) + "" + (char) ('0' + place % 10);
            due(two, history(t, 0, two + "@0"), place > 15 ? -3000 : place == 0 ? 1 : 0);
            due("second " + two, history(t, 0, "0@0," + two + "@1"), place > 15 ? -3004 : 1);
            due(two + " ahead of what can't stand there", history(t, 0, two + "x"), place > 15 ? -3000 : -1002);
            due(two + " at the end", history(t, 0, two), place > 15 ? -3000 : -1002);
            due(two + " and a third", history(t, 0, two + "1@0"), place > 15 ? -3000 : -1002);
        }
        for (int place = 0; place < 10; place++) {
            due("one digit", history(t, 0, place + "@0"), place == 0 ? 1 : 0);
        }
        due("none", history(t, 0, "@0"), -1000);
        due("none", history(t, 0, "0@0,@1"), -1004);
    }

    private static void historyHours() {
        about("HISTORY: an HOUR (0 to 999, one to three digits)");
        ForkTown t = with("");
        due("one digit", history(t, 0, "0@0"), 1);
        due("two", history(t, 0, "0@00"), 1);
        due("three", history(t, 0, "0@000"), 1);
        due("a fourth", history(t, 0, "0@0000"), -1005);
        due("none", history(t, 0, "0@"), -1002);
        due("none", history(t, 0, "0@,0@1"), -1002);
        due("999", history(t, 0, "0@0,0@999"), 1);
        due("1000", history(t, 0, "0@1000"), -1005);
        pass(t, 999);
        due("999 has begun", history(t, 0, "0@999"), 1);
        due("952 is remembered", history(t, 0, "5@952"), 0);
        due("951 is taken as told", history(t, 0, "5@951"), 1);
        due("all of it", history(t, 0, "9@0,15@9,7@99,3@100,2@951,0@952,0@999"), 7);
    }

    private static void historyLater() {
        about("HISTORY: each later than the one ahead, FAULT 6 at its first digit");
        ForkTown t = with("");
        pass(t, 100);
        due("as late", history(t, 0, "0@60,0@60"), -6007);
        due("one later", history(t, 0, "0@60,0@61"), 2);
        due("one ahead", history(t, 0, "0@60,0@59"), -6007);
        due("as late by other digits", history(t, 0, "0@60,0@060"), -6007);
        due("0 and 0", history(t, 0, "0@0,0@0"), -6006);
        due("0 and 1", history(t, 0, "0@0,0@1"), 2);
        due("later than the last one, not the first", history(t, 0, "0@60,0@90,0@70"), -6012);
        due("behind three digits", history(t, 0, "0@100,0@1000"), -6008);
        due("behind three digits", history(t, 0, "0@99,0@1000"), -1010);
        due("ahead of what can't stand there", history(t, 0, "0@60,0@60x"), -6007);
        due("at the end of the digits", history(t, 0, "0@60,0@6"), -6007);
        due("the first HOUR may be any", history(t, 0, "0@0"), 1);
    }

    private static void historySigns() {
        about("HISTORY: STEPS with a , between two, @; FAULT 1 what can't stand there (the end, too)");
        ForkTown t = with("");
        t.hours(30);
        String whole = "00@000,0@1,0@2,15@30";
        for (int n = 1; n <= whole.length(); n++) {
            String text = whole.substring(0, n);
            boolean ends = text.matches("(\\d+@\\d+,)*\\d+@\\d+");
            due(text, history(t, 0, text), ends ? Math.min(text.split(",").length, 3) : -1000 - n);
        }
        for (int at = 0; at <= whole.length(); at++) {
            for (char never : new char[] {'x', ' ', '-', '.', ';', 'A', 0, '/', ':', 200}) {
                String text = whole.substring(0, at) + never + whole.substring(at);
                due(text, history(t, 0, text), -1000 - at);
            }
        }
        due("only a comma", history(t, 0, ","), -1000);
        due("two commas", history(t, 0, "0@0,,0@1"), -1004);
        due("two @", history(t, 0, "0@@0"), -1002);
        due("a third of a step", history(t, 0, "0@0@0"), -1003);
    }

    private static void historyJudged() {
        about("HISTORY: the first STEP at which that HALF (or the one it parted from) was not AT that PLACE when that HOUR began");
        ForkTown t = with("c9(p<3);w1(p<3)", 0, 0, 1, 1, 1, 0, 2, 1, 2, 1, 3, 1, 3, 2, 3, 1);
        t.hours(6);
        due("all", history(t, 0, "0@0,1@2,3@4,3@5,3@6"), 5);
        due("the one it parted from", history(t, 1, "0@0,2@2"), 2);
        due("merged by then", history(t, 1, "0@0,2@2,3@4"), 2);
        due("on a road", history(t, 0, "0@0,0@1"), 1);
        due("another place", history(t, 0, "1@0"), 0);
        due("the first of two", history(t, 0, "0@0,2@2,2@4"), 1);
        due("THE HOUR has begun", history(t, 0, "3@6"), 1);
        due("one that has not begun", history(t, 0, "3@6,3@7"), 1);
        due("999 has not begun", history(t, 0, "3@999"), 0);
        t.comes(3, 9);
        due("not yet in town", history(t, 2, "9@5"), 0);
        due("in town", history(t, 2, "9@6"), 1);
    }

    private static void historyRemembered() {
        about("HISTORY: an HOUR that is remembered no more is taken as told");
        ForkTown t = with("");
        t.hours(47);
        due("THE HOUR less 47", history(t, 0, "5@0"), 0);
        t.hours(1);
        due("THE HOUR less 48", history(t, 0, "5@0"), 1);
        due("THE HOUR less 47", history(t, 0, "5@1"), 0);
        due("then one that is remembered", history(t, 0, "5@0,0@1,5@2"), 2);
        due("of one not in town then", t.comes(1, 3), 1);
        due("taken as told", history(t, 1, "5@0"), 1);
        due("not taken as told", history(t, 1, "5@1"), 0);
    }

    private static void breadByWeight() {
        about("BREAD: the whole part of loaves times its WEIGHT through all theirs");
        for (int loaves : new int[] {1, 2, 3, 4, 5, 7, 8, 100, 998, 999}) {
            ForkTown t = three("");
            int sum = t.bread(0, loaves) + t.bread(1, loaves) + t.bread(2, loaves);
            due(loaves + " in all", sum, loaves);
            due("half of them", t.bread(1, loaves), (loaves + (loaves % 4 == 1 ? 1 : 0)) / 2);
        }
        due("all for one", with("").bread(0, 999), 999);
        ForkTown t = three("");
        due("four", t.bread(0, 4), 1);
        due("four", t.bread(1, 4), 2);
        due("four", t.bread(2, 4), 1);
    }

    private static void breadRests() {
        about("BREAD: what is left goes one by one to those with the greatest rests (of like ones the lowest number)");
        // weights 1024, 2048, 1024
        int[][] due = {{1, 0, 1, 0}, {2, 1, 1, 0}, {3, 1, 1, 1}, {4, 1, 2, 1}, {5, 1, 3, 1}, {6, 2, 3, 1}, {7, 2, 3, 2}, {9, 2, 5, 2},
            {10, 3, 5, 2}, {11, 3, 5, 3}, {998, 250, 499, 249}, {999, 250, 499, 250}};
        for (int[] d : due) {
            for (int j = 0; j < 3; j++) {
                due(d[0] + " loaves, half " + j, three("").bread(j, d[0]), d[j + 1]);
            }
        }
        // four like ones: 2048 at 1 and at 2, each parts
        ForkTown t = with("c9(1=1)", 0, 0, 1, 1, 1, 0, 2, 1, 2, 1, 3, 9, 3, 1, 4, 9, 4, 2, 5, 9, 5, 2, 6, 9);
        t.hours(2);
        for (int loaves = 1; loaves <= 9; loaves++) {
            for (int j = 0; j < 4; j++) {
                due(loaves + " of like ones, half " + j, t.bread(j, loaves), loaves / 4 + (j < loaves % 4 ? 1 : 0));
            }
        }
    }

    private static void breadOfOne() {
        about("BREAD of a ONE: to its HALVES that LIVE");
        ForkTown t = three("x10(j=1)");
        for (int one = 1; one < 4; one++) {
            t.comes(one, one + 5);
        }
        due("others have none of it", t.bread(0, 1) + t.bread(1, 1) + t.bread(2, 1), 1);
        due("of like rests the lowest", t.bread(0, 2), 1);
        due("the other one all of its own", t.bread(4, 999), 999);
        t.hours(10);
        due("one is dead", t.half(1, 3), 0);
        due("of two like ones", t.bread(0, 5), 3);
        due("of two like ones", t.bread(2, 5), 2);
        // a ONE of whom a WEIGHT of 1 is left
        t = town("c9(1=1)");
        for (int p = 0; p < 12; p++) {
            t.road(2 * p, p, p + 1, 1);
            t.road(2 * p + 1, p, 15, 9);
        }
        t.comes(0, 0);
        t.hours(12);
        due("1 and 1", t.half(0, 4), 1);
        due("of 4096", t.bread(0, 999), 0);
        due("of 4096, with 2 and 3", t.bread(1, 999), 874);
        law(t, "x10(j>0)");
        t.hours(20);
        due("one lives", t.count(2), 1);
        due("its weight", t.half(0, 4), 1);
        due("all is its own", t.bread(0, 1), 1);
        due("all is its own", t.bread(0, 999), 999);
    }

    private static void voteByWeight() {
        about("VOTE: WEIGHT of those that LIVE and know it so against that of those that know it not so; like ones");
        // weights 1024, 2048, 1024: 0 and 2 together are as heavy as 1
        int[][] due = {{1, 0, 1, 2048, 2048, -2}, {0, 1, 0, 2048, 2048, -2}, {1, 0, -1, 1024, 2048, 0}, {-1, 0, 1, 1024, 2048, 0},
            {1, -1, 0, 1024, 1024, -2}, {1, -1, -1, 1024, 0, 1}, {-1, -1, 0, 0, 1024, 0}, {-1, -1, -1, 0, 0, -2}, {1, 1, 0, 3072, 1024, 1},
            {1, 1, 1, 4096, 0, 1}, {0, 0, 0, 0, 4096, 0}};
        for (int[] d : due) {
            ForkTown t = three("");
            for (int j = 0; j < 3; j++) {
                if (d[j] >= 0) {
                    t.learns(j, 15, d[j] == 1);
                }
            }
            for (int what = 0; what < 3; what++) {
                due("what " + what, t.vote(0, 15, what), d[3 + what]);
            }
            due("another fact", t.vote(0, 14, 0), 0);
        }
        ForkTown t = three("x10(j=1)");
        t.learns(0, 3, true);
        t.learns(1, 3, false);
        due("alive", t.vote(0, 3, 2), 0);
        t.hours(9);
        due("dead", t.half(1, 3), 0);
        due("of those that live", t.vote(0, 3, 1), 0);
        due("of those that live", t.vote(0, 3, 2), 1);
    }

    private static void checkedWeights() {
        about("CHECK: right, or the first number that is not so (of HALVES that do not LIVE 0)");
        ForkTown t = three("x10(j=1)");
        due("right", check(t, 1024, 2048, 1024), -1);
        due("behind them 0", check(t, 1024, 2048, 1024, 0, 0), -1);
        due("behind them not 0", check(t, 1024, 2048, 1024, 0, 4096), 4);
        due("the first", check(t, 1023, 2047, 1023), 0);
        due("the last", check(t, 1024, 2048, 1025), 2);
        due("the highest bit counts", check(t, 1024 | 1 << 31), 0);
        due("below 0", check(t, -1), 0);
        t.hours(9);
        due("of a dead one not its weight", check(t, 1024, 2048, 1024), 1);
        due("of a dead one 0", check(t, 1024, 0, 1024), -1);
    }

    private static void callsTo512() {
        about("used for at most 512 calls");
        ForkTown t = with("c9(1=1)", 0, 0, 1, 1, 1, 0, 2, 1, 2, 1, 0, 1, 3, 2, 0, 1);
        for (int call = 8; call <= 511; call += 2) {
            due("hours", t.hours(1) > 0, true);
            due("weight", t.tried(1, 20), 4096);
        }
        due("the hour", t.count(0), 252);
    }
}
