/**
 * Promise by promise, the bounds of what a call takes and tells: the last that is allowed, the first that is not, on either
 * side; and that a refused call changes nothing but the tape, where the document tells it.
 */
public final class BoundsOfCalls extends TownTest {
    private static final Making FULL = TownTest::fullTown;

    private BoundsOfCalls() {
    }

    public static void main(String[] args) {
        newObject();
        roadNumbers();
        roadEnds();
        roadLength();
        notices();
        comesOnes();
        comesTo64();
        learns();
        owes();
        feed();
        lawBytes();
        lawFaulty();
        hours();
        hoursTo999();
        tried();
        halfTold();
        gladly();
        halves();
        was();
        wasRemembered();
        byForks();
        plan();
        planTo999();
        joined();
        joinedTold();
        chosen();
        whoWas();
        whoWasTold();
        meet();
        built();
        closed();
        historyBytes();
        historyFaulty();
        kin();
        bread();
        vote();
        seed();
        keepAndUndo();
        check();
        countFirst();
        countNet();
        end();
    }

    private static void newObject() {
        about("1: no ROADS, NOTICES, HALVES, LAW; THE SEED 1");
        ForkTown t = new ForkTown();
        int[] counts = {0, 0, 0, 0, 0, 1, 0, 0, 0, 0};
        for (int what = 0; what < 10; what++) {
            due("count " + what, t.count(what), counts[what]);
        }
        for (int r = 0; r < 32; r++) {
            due("from", t.count(20 + r), -1);
            due("to", t.count(60 + r), -1);
            due("long", t.count(100 + r), -1);
        }
        for (int p = 0; p < 16; p++) {
            due("notice", t.count(140 + p), -2);
        }
        for (int j = 0; j < 64; j++) {
            due("half " + j, t.half(j, 0), -1);
        }
        t = new ForkTown();
        t.road(0, 0, 1, 1);
        t.road(1, 0, 2, 1);
        t.comes(0, 0);
        due("no law: not gladly", t.gladly(0, 0), 0);
        due("no law: stays", t.tried(48, 1), 0);
        due("no law: nobody dies", t.hours(48), 1);
        due("stays", t.half(0, 5), 0);
        refused("none was kept", ForkTown::new, 0, u -> u.undo() ? 1 : 0);
    }

    private static void roadNumbers() {
        about("2: ROADS 0 to 31");
        ForkTown t = new ForkTown();
        for (int r = 0; r < 32; r++) {
            due("road " + r, t.road(r, r % 16, (r + 5) % 16, 1 + r % 9), true);
            due("told", t.count(6), r + 1);
        }
        for (int r = 0; r < 32; r++) {
            due("from", t.count(20 + r), r % 16);
            due("to", t.count(60 + r), (r + 5) % 16);
            due("long", t.count(100 + r), 1 + r % 9);
        }
        due("in place of the one before", t.road(31, 1, 0, 9), true);
        due("told", t.count(6), 32);
        due("from", t.count(51), 1);
        for (int bad : beyond(0, 31)) {
            refused("road " + bad, FULL, 0, u -> u.road(bad, 0, 1, 1) ? 1 : 0);
        }
    }

    private static void roadEnds() {
        about("2: from a PLACE (0 to 15) to another one");
        ForkTown t = new ForkTown();
        for (int p = 0; p < 16; p++) {
            int other = p == 0 ? 15 : 0;
            due("from " + p, t.road(2 * p, p, other, 1), true);
            due("to " + p, t.road(2 * p + 1, other, p, 1), true);
            due("from", t.count(20 + 2 * p), p);
            due("to", t.count(61 + 2 * p), p);
        }
        for (int bad : beyond(0, 15)) {
            refused("from " + bad, FULL, 0, u -> u.road(0, bad, 1, 1) ? 1 : 0);
            refused("to " + bad, FULL, 0, u -> u.road(0, 1, bad, 1) ? 1 : 0);
            refused("from and to " + bad, FULL, 0, u -> u.road(0, bad, bad, 1) ? 1 : 0);
        }
        for (int p = 0; p < 16; p++) {
            int place = p;
            due("to where it begins", t.road(0, p, p, 1), false);
            if (p % 5 == 0) {
                refused("to where it begins: " + p, FULL, 0, u -> u.road(0, place, place, 1) ? 1 : 0);
            }
        }
    }

    private static void roadLength() {
        about("2: LONG 1 to 9");
        for (int length = 1; length < 10; length++) {
            ForkTown t = with("c1(1=1)", 0, 0, 1, length);
            due("long", t.count(100), length);
            t.hours(length);
            due("an hour left", t.half(0, 7), 1);
            due("on it", t.half(0, 5), -2);
            t.hours(1);
            due("there", t.half(0, 5), 1);
        }
        for (int bad : beyond(1, 9)) {
            refused("long " + bad, FULL, 0, u -> u.road(0, 0, 1, bad) ? 1 : 0);
        }
    }

    private static void notices() {
        about("3: a NOTICE at a PLACE (0 to 15), a FACT 0 to 15, NONE: none");
        ForkTown t = new ForkTown();
        for (int p = 0; p < 16; p++) {
            due("at " + p, t.notice(p, 15 - p, p % 2 == 0), true);
            due("told", t.count(140 + p), 15 - p + (p % 2 == 0 ? 100 : 0));
        }
        due("in place of the one before", t.notice(15, 15, true), true);
        due("told", t.count(155), 115);
        due("as many as before", t.count(154), 101);
        due("none", t.notice(15, -1, true), true);
        due("told", t.count(155), -2);
        due("none at first", t.notice(15, ForkTown.NONE, false), true);
        due("told", t.count(155), -2);
        due("one again", t.notice(15, 0, false), true);
        due("told", t.count(155), 0);
        for (int bad : beyond(0, 15)) {
            refused("at " + bad, FULL, 0, u -> u.notice(bad, 0, true) ? 1 : 0);
            refused("none at " + bad, FULL, 0, u -> u.notice(bad, -1, true) ? 1 : 0);
        }
        for (int bad : beyond(-1, 15)) {
            refused("fact " + bad, FULL, 0, u -> u.notice(1, bad, true) ? 1 : 0);
        }
    }

    private static void comesOnes() {
        about("4: a ONE 0 to 3 comes, AT a PLACE 0 to 15; NONE: no such ones, one of it LIVES");
        for (int p = 0; p < 16; p++) {
            ForkTown t = new ForkTown();
            for (int one = 0; one < 4; one++) {
                due("one " + one + " at " + p, t.comes(one, p), one);
                due("one", t.half(one, 0), one);
                due("place", t.half(one, 5), p);
                due("lives", t.comes(one, p), -1);
            }
            due("four", t.count(2), 4);
        }
        for (int bad : beyond(0, 3)) {
            refused("one " + bad, FULL, -1, u -> u.comes(bad, 0));
        }
        for (int bad : beyond(0, 15)) {
            refused("place " + bad, FULL, -1, u -> u.comes(1, bad));
        }
        refused("lives at a place", FULL, -1, u -> u.comes(3, 0));
        refused("lives as halves", FULL, -1, u -> u.comes(0, 0));
        refused("lives on roads alone", FULL, -1, u -> u.comes(2, 0));
        ForkTown t = fullTown();
        due("none of it lives", t.comes(1, 0), 9);
        int[] told = {1, -2, 6, 1, 4096, 0, -2, 0, 0, 0, -2};
        for (int what = 0; what < told.length; what++) {
            due("what " + what, t.half(9, what), told[what]);
        }
        for (int f = 0; f < 16; f++) {
            due("knows nothing", t.half(9, 20 + f), -2);
        }
        due("the dead one stays dead", t.half(1, 3), 0);
    }

    /** Four a time come and die, till so many have been; the tape is empty. */
    private static ForkTown townOfDead(int many) {
        ForkTown t = town("x10(1=1)");
        for (int j = 0; j < many; j++) {
            t.comes(j % 4, j % 16);
            if (j % 4 == 3) {
                t.hours(1);
            }
        }
        return t;
    }

    private static void comesTo64() {
        about("4: 64 have been");
        ForkTown t = townOfDead(63);
        due("63 have been", t.count(1), 63);
        due("the 64th", t.comes(3, 15), 63);
        due("64 have been", t.count(1), 64);
        due("it lives", t.half(63, 3), 1);
        for (int one = 0; one < 4; one++) {
            int who = one;
            refused("a 65th", () -> townOfDead(64), -1, u -> u.comes(who, 0));
        }
        t = townOfDead(64);
        due("nobody lives", t.count(2), 0);
        due("none twice", t.comes(0, 0), -1);
        due("no 64", t.half(64, 0), -1);
    }

    private static void learns() {
        about("5: a HALF that LIVES is told a FACT 0 to 15");
        ForkTown t = with("");
        for (int f = 0; f < 16; f++) {
            due("not known", t.half(0, 20 + f), -2);
            due("fact " + f, t.learns(0, f, f % 3 == 0), true);
            due("known", t.half(0, 20 + f), f % 3 == 0 ? 1 : 0);
            due("the next one is not", f == 15 || t.half(0, 21 + f) == -2, true);
        }
        due("on a road", fullTown().learns(7, 0, true), true);
        for (int bad : beyond(0, 15)) {
            refused("fact " + bad, FULL, 0, u -> u.learns(0, bad, true) ? 1 : 0);
        }
        for (int bad : beyond(0, 8)) {
            refused("half " + bad, FULL, 0, u -> u.learns(bad, 0, true) ? 1 : 0);
        }
        refused("dead", FULL, 0, u -> u.learns(1, 0, true) ? 1 : 0);
        refused("merged", FULL, 0, u -> u.learns(2, 0, true) ? 1 : 0);
        refused("63", FULL, 0, u -> u.learns(63, 0, true) ? 1 : 0);
        refused("64", FULL, 0, u -> u.learns(64, 0, true) ? 1 : 0);
    }

    private static void owes() {
        about("6: COINS 0 to 99999 a HALF that LIVES owes");
        ForkTown t = with("");
        for (int coins : new int[] {1, 99998, 99999, 0}) {
            due("owes " + coins, t.owes(0, coins), true);
            due("told", t.half(0, 9), coins);
        }
        due("on a road", fullTown().owes(7, 0), true);
        for (int bad : beyond(0, 99999)) {
            refused("owes " + bad, FULL, 0, u -> u.owes(0, bad) ? 1 : 0);
        }
        for (int bad : beyond(0, 8)) {
            refused("half " + bad, FULL, 0, u -> u.owes(bad, 5) ? 1 : 0);
        }
        refused("dead", FULL, 0, u -> u.owes(1, 5) ? 1 : 0);
        refused("merged", FULL, 0, u -> u.owes(2, 5) ? 1 : 0);
    }

    private static void feed() {
        about("7: twenty bytes come behind the tape; NONE if that would be more than 260");
        ForkTown t = new ForkTown();
        due("empty", t.count(4), 0);
        for (int i = 1; i <= 13; i++) {
            due("feed", t.feed(i, -1, Integer.MIN_VALUE, Integer.MAX_VALUE, 0), 20 * i);
            due("has", t.count(4), 20 * i);
        }
        Making full = () -> {
            ForkTown u = fullTown();
            for (int i = 0; i < 11; i++) {
                u.feed(0, 0, 0, 0, 0);
            }
            return u;
        };
        due("260", full.make().count(4), 260);
        refused("280", full, -1, u -> u.feed(-1, -1, -1, -1, -1));
        t = full.make();
        t.feed(-1, -1, -1, -1, -1);
        due("emptied", t.check(0), -1);
        due("from the front again", t.feed(0, 0, 0, 0, 0), 20);
        about("7: the highest byte of each int first");
        t = with("");
        t.feed(0x00001000, 0, 0, 0, 0);
        due("4096", t.check(1), -1);
        for (int place = 0; place < 20; place++) {
            int[] words = new int[5];
            words[place / 4] = ';' << 24 - 8 * (place % 4);
            ForkTown u = new ForkTown();
            u.feed('c' << 24 | '1' << 16 | '(' << 8 | '1', '=' << 24 | '1' << 16 | ')' << 8, 0, 0, 0);
            due("a law", u.law(7), 1);
            u.feed(words[0], words[1], words[2], words[3], words[4]);
            due("a byte at " + place, u.law(20), -1000);
        }
        t.feed('c' << 24 | '1' << 16 | '(' << 8 | '1', '=' << 24 | '1' << 16 | ')' << 8 | ';', 'c' << 24 | '2' << 16, 0, '=' << 24 | 200);
        due("in their order", t.law(20), -1010);
    }

    private static ForkTown fed(int many, String text) {
        ForkTown t = fullTown();
        t.check(0);
        feedText(t, text);
        while (t.count(4) < many) {
            t.feed(0, 0, 0, 0, 0);
        }
        return t;
    }

    private static void lawBytes() {
        about("8: the first n bytes of the tape (1 to 240; empty then); NONE: no such n, it has not so many (the tape stays)");
        due("1 byte", fed(20, "c1(1=1)").law(1), -1001);
        due("7 of 20", fed(20, "c1(1=1)").law(7), 1);
        due("20 of 20", fed(20, "c1+2+3+4+5+66(1=1)").law(18), 1);
        due("20 of 20", fed(20, "c1+2+3+4+5+66(1<=1)").law(20), -1016);
        due("all twenty", fed(20, "c1+2+3+4+5+6667(1=1)").law(20), 1);
        Making tape = () -> fed(260, "c1(1=1)");
        emptied("empty then", tape, -1007, t -> t.law(240));
        for (int bad : new int[] {0, -1, 241, 260, 261, Integer.MIN_VALUE, Integer.MAX_VALUE}) {
            refused("n " + bad, tape, -1, t -> t.law(bad));
        }
        for (int many = 20; many <= 220; many += 40) {
            int size = many;
            refused("a byte too few", () -> fed(size, "c1(1=1)"), -1, t -> t.law(size + 1));
            due("just so many", fed(size, "c1(1=1)").law(size), -1007);
        }
        refused("an empty tape", () -> town("c1(1=1)", 0, 0, 1, 1), -1, t -> t.law(1));
        ForkTown t = fed(60, "c1(1=1)");
        due("clauses", t.law(7), 1);
        due("all of it is used", t.count(4), 0);
    }

    private static void lawFaulty() {
        about("8: a FAULT (the one before stays)");
        for (String text : new String[] {"c", "c5(1=1", "c123456(1=1)", "c1(((((((1=1)))))))", "c5(1=1);;", "x10(1=1);c0(1=1)!"}) {
            Making making = () -> fed(40, text);
            due("a fault", making.make().law(text.length()) <= -1000, true);
            emptied("a fault: " + text, making, making.make().law(text.length()), t -> t.law(text.length()));
        }
        ForkTown t = fed(20, "c5(1=1);x10(1=1");
        due("clauses before", t.count(3), 7);
        due("a fault in the second", t.law(15), -1015);
        due("clauses as before", t.count(3), 7);
        due("again a fault", law(t, "d1(1=1);"), -1008);
        due("clauses as before", t.count(3), 7);
        due("then a good one", law(t, "d1(1=1);d2(1=1)"), 2);
        due("in place of the one before", t.count(3), 2);
    }

    private static void hours() {
        about("9: HOURS 1 to 48");
        for (int n = 1; n <= 48; n++) {
            ForkTown t = with("");
            due(n + " hours", t.hours(n), 1);
            due("the hour", t.count(0), n);
        }
        for (int bad : beyond(1, 48)) {
            refused(bad + " hours", FULL, -1, t -> t.hours(bad));
        }
        due("how many live then", with("x10(1=1)").hours(1), 0);
        due("nobody", new ForkTown().hours(48), 0);
        due("four", townOfFour().hours(48), 4);
    }

    private static ForkTown townOfFour() {
        ForkTown t = new ForkTown();
        for (int one = 0; one < 4; one++) {
            t.comes(one, one);
        }
        return t;
    }

    private static ForkTown late(int hour) {
        ForkTown t = fullTown();
        pass(t, hour - t.count(0));
        return t;
    }

    private static void hoursTo999() {
        about("9: NONE: THE HOUR would be above 999");
        for (int n : new int[] {1, 2, 47, 48}) {
            Making last = () -> late(999 - n);
            due("up to 999", last.make().hours(n) > 0, true);
            ForkTown t = last.make();
            t.hours(n);
            due("the hour", t.count(0), 999);
            if (n < 48) {
                refused("above 999", last, -1, u -> u.hours(n + 1));
            }
        }
        Making end = () -> late(999);
        refused("at 999", end, -1, t -> t.hours(1));
        refused("at 999", end, -1, t -> t.hours(48));
        ForkTown t = with("");
        pass(t, 999);
        due("at 999 another one still comes", t.comes(1, 3), 1);
    }

    private static void tried() {
        about("10: TRIED n HOURS (1 to 48); nothing is changed; NONE: no such ones, THE HOUR would be above 999");
        for (int what : new int[] {0, 1, 2, 3, 4, 10, 11, 12, 13, 20, 21, 22, 23, 30, 31, 32, 33}) {
            int answer = fullTown().tried(3, what);
            due("told: " + what, answer >= 0, true);
            refused("only tells: " + what, FULL, answer, t -> t.tried(3, what));
        }
        for (int n = 1; n <= 48; n++) {
            due("as if they went by", fullTown().tried(n, 0), fullTown().hours(n));
        }
        for (int bad : new int[] {-1, 5, 6, 9, 14, 15, 19, 24, 29, 34, 39, 40, 43, Integer.MIN_VALUE, Integer.MAX_VALUE}) {
            refused("what " + bad, FULL, -1, t -> t.tried(1, bad));
        }
        for (int bad : beyond(1, 48)) {
            refused("n " + bad, FULL, -1, t -> t.tried(bad, 0));
        }
        due("up to 999", late(951).tried(48, 0) > 0, true);
        refused("above 999", () -> late(952), -1, t -> t.tried(48, 0));
        due("up to 999", late(998).tried(1, 0) > 0, true);
        refused("above 999", () -> late(998), -1, t -> t.tried(2, 0));
        refused("above 999", () -> late(999), -1, t -> t.tried(1, 0));
    }

    private static void halfTold() {
        about("11: of a HALF that has been; NONE for others");
        int[] living = {0, -2, 0, 1, 3072, 3, -2, 0, 1, 37, -2};
        int[] dead = {1, -2, 0, 0, 4096, 9, -2, 0, 0, 0, -2};
        int[] merged = {0, 0, 0, 0, 2048, 3, -2, 0, 0, 2, 0};
        int[] onRoad = {2, 4, 5, 1, 512, -2, 3, 5, 0, 4, -2};
        for (int what = 0; what < 11; what++) {
            int told = what;
            due("living, what " + what, fullTown().half(0, what), living[what]);
            due("dead, what " + what, fullTown().half(1, what), dead[what]);
            due("merged, what " + what, fullTown().half(2, what), merged[what]);
            due("on a road, what " + what, fullTown().half(7, what), onRoad[what]);
            due("has not been", fullTown().half(9, told), -1);
        }
        int[] facts = {-2, -2, 1, -2, -2, -2, -2, 0, -2, -2, -2, -2, -2, -2, -2, 1};
        for (int f = 0; f < 16; f++) {
            due("fact " + f, fullTown().half(0, 20 + f), facts[f]);
            due("fact " + f + " as it was last", fullTown().half(2, 20 + f), f == 2 ? 0 : -2);
            due("has not been", fullTown().half(9, 20 + f), -1);
        }
        for (int bad : new int[] {-1, 11, 12, 19, 36, 37, 100, Integer.MIN_VALUE, Integer.MAX_VALUE}) {
            due("what " + bad, fullTown().half(0, bad), -1);
        }
        for (int bad : new int[] {-1, 9, 63, 64, 65, Integer.MIN_VALUE, Integer.MAX_VALUE}) {
            refused("half " + bad, FULL, -1, t -> t.half(bad, 0));
        }
        refused("only tells", FULL, 3072, t -> t.half(0, 4));
    }

    private static void gladly() {
        about("12: a HALF that LIVES and is AT a PLACE; -2: the ROAD is not from there; NONE: no such ones");
        due("from there", fullTown().gladly(0, 5), 9);
        due("from there", fullTown().gladly(0, 6), 4);
        for (int r : new int[] {0, 1, 2, 3, 4, 7, 8, 9}) {
            due("not from there: " + r, fullTown().gladly(0, r), -2);
        }
        for (int r : new int[] {10, 11, 30, 31, 32, -1, -2, Integer.MIN_VALUE, Integer.MAX_VALUE}) {
            refused("not told: " + r, FULL, -1, t -> t.gladly(0, r));
        }
        for (int j : new int[] {-1, 9, 63, 64, Integer.MIN_VALUE, Integer.MAX_VALUE}) {
            refused("has not been: " + j, FULL, -1, t -> t.gladly(j, 5));
        }
        refused("dead where a road would go", () -> {
            ForkTown t = fullTown();
            t.road(20, 9, 0, 1);
            return t;
        }, -1, t -> t.gladly(1, 20));
        refused("merged", FULL, -1, t -> t.gladly(2, 5));
        refused("on a road", FULL, -1, t -> t.gladly(4, 5));
        refused("only tells", FULL, 9, t -> t.gladly(0, 5));
        ForkTown t = town("c9(1=1)", 0, 0, 1, 1, 31, 15, 14, 9);
        t.comes(3, 15);
        due("road 31, place 15", t.gladly(0, 31), 9);
        due("road 0", t.gladly(0, 0), -2);
    }

    private static void halves() {
        about("13: bits of numbers 16 times what on, 16 of them (what 0 to 3); NONE: no such ones");
        for (int j : new int[] {0, 1, 14, 15, 16, 17, 31, 32, 47, 48, 62, 63}) {
            ForkTown t = townOfDead(j - j % 4);
            for (int one = 0; one < j % 4; one++) {
                t.comes(one, 0);
            }
            due("number", t.comes(3, 0), j);
            for (int what = 0; what < 4; what++) {
                due("half " + j + ", what " + what, t.halves(3, what), j / 16 == what ? 1 << j % 16 : 0);
            }
        }
        due("of 0", fullTown().halves(0, 0), 1 | 8);
        due("of 1, who is dead", fullTown().halves(1, 0), 0);
        due("of 2", fullTown().halves(2, 0), 16 | 32 | 64 | 128);
        due("of 3", fullTown().halves(3, 0), 256);
        for (int bad : beyond(0, 3)) {
            refused("one " + bad, FULL, -1, t -> t.halves(bad, 0));
            refused("what " + bad, FULL, -1, t -> t.halves(0, bad));
        }
        refused("only tells", FULL, 9, t -> t.halves(0, 0));
    }

    private static void was() {
        about("14: where a HALF was when an HOUR began; -3: not remembered, not yet; NONE: no such HALF");
        int[] first = {0, -2, -2, -2, 3, 3, 3};
        int[] dead = {9, 9, 9, -2, -2, -2, -2};
        int[] late = {-2, -2, 5, -2, -2, -2, -2};
        int[] now = {-2, -2, -2, -2, -2, -2, 3};
        for (int hour = 0; hour < 7; hour++) {
            due("0 at " + hour, fullTown().was(0, hour), first[hour]);
            due("1, dead, at " + hour, fullTown().was(1, hour), dead[hour]);
            due("7 at " + hour, fullTown().was(7, hour), late[hour]);
            due("8 at " + hour, fullTown().was(8, hour), now[hour]);
        }
        for (int hour : new int[] {7, 8, 999, 1000, -1, -2, Integer.MIN_VALUE, Integer.MAX_VALUE}) {
            due("hour " + hour, fullTown().was(0, hour), -3);
        }
        for (int bad : new int[] {-1, 9, 63, 64, Integer.MIN_VALUE, Integer.MAX_VALUE}) {
            refused("half " + bad, FULL, -1, t -> t.was(bad, 0));
            due("half " + bad + ", no such hour", fullTown().was(bad, 7), -1);
        }
        refused("only tells", FULL, 3, t -> t.was(0, 4));
    }

    private static void wasRemembered() {
        about("14: from THE HOUR less 47 on it is remembered");
        for (int hour : new int[] {46, 47, 48, 49, 95, 96, 97, 500, 998, 999}) {
            ForkTown t = with("");
            pass(t, hour);
            due("now", t.was(0, hour), 0);
            due("not yet", t.was(0, hour + 1), -3);
            due("the last one", t.was(0, Math.max(0, hour - 47)), 0);
            due("not remembered", t.was(0, hour - 48), -3);
            due("not remembered", t.was(0, hour - 49), -3);
        }
        ForkTown t = with("c1(h=3)", 0, 0, 1, 1);
        t.hours(48);
        for (int hour = 1; hour <= 48; hour++) {
            due("hour " + hour, t.was(0, hour), hour <= 3 ? 0 : hour == 4 ? -2 : 1);
        }
        t.hours(3);
        due("hour 4", t.was(0, 4), -2);
        due("hour 3", t.was(0, 3), -3);
    }

    private static void byForks() {
        about("15: n HOURS (0 to 60), from a PLACE 0 to 15; -1: no such ones");
        ForkTown t = new ForkTown();
        for (int p = 0; p < 16; p++) {
            due("from " + p, t.byForks(p, 0), 1);
            due("without a road he stays", t.byForks(p, 60), 1);
        }
        for (int r = 0; r < 32; r++) {
            t.road(r, r / 2, (r / 2 + 1) % 16, 1);
        }
        for (int n = 0; n <= 60; n++) {
            due("two roads each", t.byForks(15, n), 1L << n);
        }
        for (int bad : beyond(0, 60)) {
            refused("n " + bad, FULL, -1, u -> u.byForks(0, bad));
        }
        for (int bad : beyond(0, 15)) {
            refused("from " + bad, FULL, -1, u -> u.byForks(bad, 1));
        }
        refused("only tells", FULL, fullTown().byForks(0, 60), u -> u.byForks(0, 60));
    }

    private static void plan() {
        about("16: a PLAN; NONE: no such ones, not just one HALF of it LIVES AT a PLACE");
        for (int what = 0; what < 3; what++) {
            int told = what;
            refused("now", FULL, what == 2 ? 1 : 0, t -> t.plan(3, 8, 1, told));
            refused("there is none", FULL, -2, t -> t.plan(3, 1 << 15, 1, told));
            due("48 hours", fullTown().plan(3, 8, 48, what), what == 2 ? 1 : 0);
            due("no places", fullTown().plan(3, 0, 1, what), what == 2 ? 1 : 0);
            due("all places", fullTown().plan(3, 65535, 1, what), -2);
        }
        for (int bad : beyond(0, 3)) {
            refused("one " + bad, FULL, -1, t -> t.plan(bad, 8, 1, 0));
        }
        for (int bad : beyond(0, 65535)) {
            refused("places " + bad, FULL, -1, t -> t.plan(3, bad, 1, 0));
        }
        for (int bad : beyond(1, 48)) {
            refused("n " + bad, FULL, -1, t -> t.plan(3, 8, bad, 0));
        }
        for (int bad : beyond(0, 2)) {
            refused("what " + bad, FULL, -1, t -> t.plan(3, 8, 1, bad));
        }
        refused("two halves", FULL, -1, t -> t.plan(0, 8, 1, 0));
        refused("dead", FULL, -1, t -> t.plan(1, 512, 1, 0));
        refused("not in town", ForkTown::new, -1, t -> t.plan(0, 0, 1, 0));
        ForkTown t = with("c1(1=1)", 0, 0, 1, 1);
        due("at a place", t.plan(0, 1, 1, 0), 0);
        t.hours(1);
        due("on a road", t.plan(0, 0, 1, 0), -1);
        t.hours(1);
        due("at a place", t.plan(0, 2, 1, 0), 0);
    }

    private static void planTo999() {
        about("16: NONE: THE HOUR would be above 999");
        ForkTown t = with("");
        pass(t, 951);
        due("up to 999", t.plan(0, 1, 48, 0), 0);
        t.hours(1);
        due("above 999", t.plan(0, 1, 48, 0), -1);
        due("up to 999", t.plan(0, 1, 47, 0), 0);
        t.hours(46);
        due("up to 999", t.plan(0, 1, 1, 0), 0);
        due("above 999", t.plan(0, 1, 2, 0), -1);
        t.hours(1);
        due("above 999, though it were now", t.plan(0, 1, 1, 0), -1);
    }

    /** ONE 2 of fullTown, with facts, and HALVES on the tape. */
    private static ForkTown toJoin(int... halves) {
        ForkTown t = fullTown();
        t.check(0);
        feed(t, halves);
        return t;
    }

    private static void joined() {
        about("17: the first n bytes of the tape (n 2 to 5; empty then); NONE: no such n, it has not so many (the tape stays)");
        emptied("two", () -> toJoin(4, 5), 1, t -> t.joined(2, -1));
        emptied("four", () -> toJoin(7, 6, 5, 4), 1, t -> t.joined(4, -1));
        emptied("the first two", () -> toJoin(4, 5, 99), 1, t -> t.joined(2, -1));
        emptied("the third, too", () -> toJoin(4, 5, 99), -2, t -> t.joined(3, -1));
        ForkTown five = five();
        due("five", joined(five, -1, 0, 1, 2, 3, 4), 0);
        for (int i = 0; i < 5; i++) {
            due("the least row", joined(five, i, 4, 3, 2, 1, 0), i);
        }
        for (int bad : new int[] {1, 0, -1, 6, 20, Integer.MIN_VALUE, Integer.MAX_VALUE}) {
            refused("n " + bad, () -> toJoin(4, 5, 6, 7, 4, 5), -1, t -> t.joined(bad, -1));
        }
        for (int n = 2; n <= 5; n++) {
            int many = n;
            refused("no bytes", () -> {
                ForkTown t = fullTown();
                t.check(0);
                return t;
            }, -1, t -> t.joined(many, -1));
        }
    }

    /** A ONE of five HALVES. */
    private static ForkTown five() {
        return crowd(5);
    }

    /** A ONE of so many HALVES, none of which has come anywhere again. */
    private static ForkTown crowd(int many) {
        ForkTown t = town("c9(r%2=0);c9(1=1)");
        for (int p = 0; p < many - 1; p++) {
            t.road(2 * p, p, p + 1, 1);
            t.road(2 * p + 1, p, 15, 9);
        }
        t.comes(0, 0);
        t.hours(many - 1);
        return t;
    }

    private static void joinedTold() {
        about("17: -2: no such HALVES, one twice, of two ONES; -3: no such place");
        emptied("one twice", () -> toJoin(4, 4), -2, t -> t.joined(2, -1));
        emptied("the first and the last", () -> toJoin(4, 5, 6, 4), -2, t -> t.joined(4, 0));
        emptied("of two ones", () -> toJoin(4, 0), -2, t -> t.joined(2, -1));
        emptied("of two ones, the last", () -> toJoin(4, 5, 6, 3), -2, t -> t.joined(4, -1));
        emptied("dead", () -> toJoin(1, 4), -2, t -> t.joined(2, -1));
        emptied("merged", () -> toJoin(0, 2), -2, t -> t.joined(2, -1));
        emptied("has not been", () -> toJoin(4, 9), -2, t -> t.joined(2, -1));
        emptied("255", () -> toJoin(255, 4), -2, t -> t.joined(2, -1));
        emptied("place 0", () -> toJoin(5, 4), 4, t -> t.joined(2, 0));
        emptied("place 1", () -> toJoin(5, 4), 5, t -> t.joined(2, 1));
        emptied("place 2 of two", () -> toJoin(5, 4), -3, t -> t.joined(2, 2));
        emptied("place 2 of three", () -> toJoin(6, 5, 4), 6, t -> t.joined(3, 2));
        emptied("place 3 of three", () -> toJoin(6, 5, 4), -3, t -> t.joined(3, 3));
        for (int bad : new int[] {-2, -3, Integer.MIN_VALUE, Integer.MAX_VALUE}) {
            emptied("place " + bad, () -> toJoin(5, 4), -3, t -> t.joined(2, bad));
        }
        ForkTown five = five();
        due("place 4 of five", joined(five, 4, 0, 1, 2, 3, 4), 4);
        due("place 5 of five", joined(five, 5, 0, 1, 2, 3, 4), -3);
    }

    private static void chosen() {
        about("18: ROADS CHOSEN; NONE: no such ones, one twice, not AT one PLACE");
        refused("how many", FULL, 3, t -> t.chosen(0, 8, 0));
        due("the first", fullTown().chosen(0, 8, 1), 5);
        due("the first", fullTown().chosen(0, 8, 2), 5);
        for (int bad : beyond(0, 2)) {
            refused("what " + bad, FULL, -1, t -> t.chosen(0, 8, bad));
        }
        for (int bad : new int[] {-1, 9, 63, 64, Integer.MIN_VALUE, Integer.MAX_VALUE}) {
            refused("half " + bad, FULL, -1, t -> t.chosen(bad, 8, 0));
            refused("half " + bad, FULL, -1, t -> t.chosen(0, bad, 0));
            due("both " + bad, fullTown().chosen(bad, bad, 0), -1);
        }
        refused("one twice", FULL, -1, t -> t.chosen(0, 0, 0));
        refused("on a road", FULL, -1, t -> t.chosen(0, 3, 0));
        refused("both on roads", FULL, -1, t -> t.chosen(3, 4, 0));
        refused("merged there", FULL, -1, t -> t.chosen(2, 8, 0));
        refused("dead", FULL, -1, t -> t.chosen(1, 0, 0));
        ForkTown t = town("c9(1=1)", 0, 0, 1, 1, 1, 1, 0, 1);
        t.comes(0, 0);
        t.comes(1, 1);
        due("not at one place", t.chosen(0, 1, 0), -1);
        t = town("", 0, 0, 1, 1);
        t.comes(0, 0);
        t.comes(1, 0);
        due("none with c above 0", t.chosen(0, 1, 0), 0);
        due("none", t.chosen(0, 1, 1), -2);
        due("none", t.chosen(0, 1, 2), -2);
    }

    private static ForkTown toSee(int... seen) {
        ForkTown t = fullTown();
        t.check(0);
        feedSeen(t, seen);
        return t;
    }

    private static void whoWas() {
        about("19: the first 3 n bytes of the tape (n 1 to 8; empty then); NONE: no such ones, it has not so many (the tape stays)");
        emptied("how many", () -> toSee(0, 0), 3, t -> t.whoWas(1, 0));
        emptied("the first", () -> toSee(0, 0), 0, t -> t.whoWas(1, 1));
        emptied("six of twenty bytes", () -> toSee(4, 3, 5, 3, 6, 3, 0, 0, 0, 0, 0, 0), 1, t -> t.whoWas(6, 0));
        emptied("eight", () -> toSee(4, 3, 5, 3, 6, 3, 0, 0, 0, 0, 0, 0, 6, 3, 6, 3), 1, t -> t.whoWas(8, 0));
        emptied("eight, not the last", () -> toSee(4, 3, 5, 3, 6, 3, 0, 0, 0, 0, 0, 0, 6, 3, 6, 2), 0, t -> t.whoWas(8, 0));
        emptied("the first five", () -> toSee(4, 3, 5, 3, 6, 3, 0, 0, 0, 0, 99, 99), 1, t -> t.whoWas(5, 0));
        refused("seven of twenty bytes", () -> toSee(4, 3, 5, 3), -1, t -> t.whoWas(7, 0));
        refused("eight of twenty bytes", () -> toSee(4, 3, 5, 3), -1, t -> t.whoWas(8, 0));
        for (int bad : new int[] {0, -1, 9, 10, 13, Integer.MIN_VALUE, Integer.MAX_VALUE}) {
            refused("n " + bad, FULL, -1, t -> t.whoWas(bad, 0));
        }
        for (int bad : beyond(0, 1)) {
            refused("what " + bad, FULL, -1, t -> t.whoWas(1, bad));
        }
        refused("an empty tape", ForkTown::new, -1, t -> t.whoWas(1, 0));
    }

    private static void whoWasTold() {
        about("19: -2: none (of 1), no such PLACES, HOURS that are not remembered");
        emptied("none", () -> toSee(0, 1), -2, t -> t.whoWas(1, 1));
        emptied("none: how many", () -> toSee(0, 1), 0, t -> t.whoWas(1, 0));
        due("place 15", whoWas(fullTownWithoutTape(), 0, 0, 15), 0);
        emptied("place 16", () -> toSee(0, 16), -2, t -> t.whoWas(1, 0));
        emptied("place 255", () -> toSee(0, 255), -2, t -> t.whoWas(1, 0));
        emptied("the second place", () -> toSee(0, 0, 4, 16), -2, t -> t.whoWas(2, 0));
        due("THE HOUR", whoWas(fullTownWithoutTape(), 0, 6, 3), 2);
        emptied("not begun", () -> toSee(7, 3), -2, t -> t.whoWas(1, 0));
        emptied("not begun", () -> toSee(65535, 3), -2, t -> t.whoWas(1, 1));
        emptied("the last is not begun", () -> toSee(0, 1, 7, 3), -2, t -> t.whoWas(2, 0));
        ForkTown t = with("");
        pass(t, 47);
        due("THE HOUR less 47", whoWas(t, 0, 0, 0), 1);
        t.hours(1);
        due("THE HOUR less 48", whoWas(t, 0, 0, 0), -2);
        due("THE HOUR less 47", whoWas(t, 0, 1, 0), 1);
        pass(t, 255 - 48);
        due("one byte", whoWas(t, 0, 255, 0), 1);
        due("not begun", whoWas(t, 0, 256, 0), -2);
        t.hours(1);
        due("two bytes", whoWas(t, 0, 256, 0), 1);
        pass(t, 999 - 256);
        due("999", whoWas(t, 0, 999, 0), 1);
        due("952", whoWas(t, 0, 952, 0), 1);
        due("951", whoWas(t, 0, 951, 0), -2);
        due("1000", whoWas(t, 0, 1000, 0), -2);
    }

    private static ForkTown fullTownWithoutTape() {
        ForkTown t = fullTown();
        t.check(0);
        return t;
    }

    private static void meet() {
        about("20: WHERE ALL CAN MEET (none LIVES: all); NONE: no such one");
        due("none lives", new ForkTown().meet(0), 65535);
        due("none lives", new ForkTown().meet(3), 65535);
        due("dead", fullTown().meet(1), 65535);
        for (int p = 0; p < 16; p++) {
            ForkTown t = new ForkTown();
            t.comes(3, p);
            due("without roads", t.meet(3), 1 << p);
        }
        refused("only tells", FULL, 31, t -> t.meet(0));
        for (int bad : beyond(0, 3)) {
            refused("one " + bad, FULL, -1, t -> t.meet(bad));
        }
    }

    private static void built() {
        about("21: BUILT (0: none); NONE for others");
        for (int what = 0; what < 3; what++) {
            int told = what;
            due("without roads", new ForkTown().built(what), 0);
            refused("only tells", FULL, fullTown().built(told), t -> t.built(told));
        }
        for (int bad : beyond(0, 2)) {
            refused("what " + bad, FULL, -1, t -> t.built(bad));
        }
        ForkTown t = new ForkTown();
        for (int p = 1; p < 16; p++) {
            t.road(p, 0, p, 1);
            due("groups", t.built(1), p);
            due("less 1", t.built(0), p - 1);
            due("the one with the lowest place", t.built(2), 2);
        }
        t.road(16, 15, 0, 1);
        due("one comes out of 0 and 15", t.built(1), 14);
        t = new ForkTown();
        t.road(0, 14, 15, 1);
        due("place 15", t.built(2), 1 << 15);
        t.road(1, 15, 14, 1);
        due("both", t.built(2), 3 << 14);
        due("both", t.built(0), 0);
    }

    private static void closed() {
        about("22: CLOSED between two PLACES; -2: it can't be; NONE: no such ones, one twice");
        for (int p = 0; p < 16; p++) {
            int place = p;
            due("without roads", new ForkTown().closed(p, (p + 1) % 16, 0), 0);
            due("one twice", new ForkTown().closed(place, place, 0), -1);
        }
        refused("a road goes", FULL, -2, t -> t.closed(0, 1, 0));
        refused("a road goes", FULL, -2, t -> t.closed(0, 1, 1));
        refused("one twice", FULL, -1, t -> t.closed(3, 3, 0));
        for (int bad : beyond(0, 15)) {
            refused("from " + bad, FULL, -1, t -> t.closed(bad, 3, 0));
            refused("to " + bad, FULL, -1, t -> t.closed(3, bad, 0));
        }
        for (int bad : beyond(0, 1)) {
            refused("what " + bad, FULL, -1, t -> t.closed(0, 3, bad));
        }
        ForkTown t = town("", 0, 0, 15, 1, 1, 15, 14, 1);
        due("place 15", t.closed(0, 14, 0), 1);
        due("place 15", t.closed(0, 14, 1), 1 << 15);
        due("a road goes, not back", t.closed(15, 0, 0), 0);
        t.road(2, 0, 14, 9);
        due("straight now", t.closed(0, 14, 0), -2);
    }

    private static ForkTown told(String text) {
        ForkTown t = fullTown();
        t.check(0);
        feedText(t, text);
        return t;
    }

    private static void historyBytes() {
        about("23: the first n bytes of the tape (1 to 60; empty then); NONE: no such ones, it has not so many (the tape stays)");
        emptied("1", () -> told("0@0"), -1001, t -> t.history(0, 1));
        emptied("3 of 20", () -> told("0@0"), 1, t -> t.history(0, 3));
        String sixty = "00@000,01@001,02@002,03@003,04@004,05@005,06@006,07@7,08@008";
        due("long", sixty.length(), 60);
        emptied("60", () -> told(sixty), 1, t -> t.history(0, 60));
        emptied("60 of 80", () -> told(sixty + ","), 1, t -> t.history(0, 60));
        emptied("20 of 20", () -> told("00@000,3@4,03@05,3@6"), 4, t -> t.history(0, 20));
        for (int bad : new int[] {0, -1, 61, 80, 81, Integer.MIN_VALUE, Integer.MAX_VALUE}) {
            refused("n " + bad, () -> told(sixty + ","), -1, t -> t.history(0, bad));
        }
        refused("21 of 20", () -> told("0@0"), -1, t -> t.history(0, 21));
        refused("an empty tape", BoundsOfCalls::fullTownWithoutTape, -1, t -> t.history(0, 1));
        for (int bad : new int[] {-1, 9, 63, 64, Integer.MIN_VALUE, Integer.MAX_VALUE}) {
            refused("half " + bad, () -> told("0@0"), -1, t -> t.history(bad, 3));
        }
        due("dead", told("9@0,9@2,9@3").history(1, 11), 2);
        due("merged", told("0@0,3@4").history(2, 7), 1);
    }

    private static void historyFaulty() {
        about("23: a FAULT, and how many there are: all are");
        emptied("a fault", () -> told("0@0,16@1"), -3004, t -> t.history(0, 8));
        emptied("a fault", () -> told("0@1,0@1"), -6006, t -> t.history(0, 7));
        emptied("a fault", () -> told("0@1;"), -1003, t -> t.history(0, 4));
        emptied("a fault behind a step that is not so", () -> told("9@0,"), -1004, t -> t.history(0, 4));
        emptied("the first that is not so", () -> told("9@0,9@4"), 0, t -> t.history(0, 7));
        emptied("the second", () -> told("0@0,9@4"), 1, t -> t.history(0, 7));
        emptied("all are", () -> told("0@0,3@4"), 2, t -> t.history(0, 7));
        ForkTown t = with("");
        t.hours(14);
        String most = "0@0,0@1,0@2,0@3,0@4,0@5,0@6,0@7,0@8,0@9,0@10,0@11,0@12,0@14";
        due("the most steps that 60 bytes hold", history(t, 0, most), 14);
        due("and one that is not so", history(t, 0, most.replace("12", "15").replace("14", "16")), 12);
    }

    private static void kin() {
        about("24: from how many a HALF came; NONE: no such ones");
        int[] many = {1, 1, 2, 2, 1, 2, 2, 2, 1};
        int[] first = {0, 1, 0, 0, 4, 4, 4, 4, 8};
        for (int j = 0; j < 9; j++) {
            due("half " + j, fullTown().kin(j, 0, 0), many[j]);
            due("half " + j, fullTown().kin(j, 0, 1), first[j]);
        }
        due("in common", fullTown().kin(6, 7, 2), 4);
        due("with itself", fullTown().kin(7, 7, 2), 7);
        due("with its parent", fullTown().kin(7, 4, 2), 4);
        due("in common: half 0", fullTown().kin(3, 2, 2), 0);
        due("in common: half 0 itself", fullTown().kin(0, 3, 2), 0);
        due("none", fullTown().kin(3, 7, 2), -2);
        for (int bad : beyond(0, 8)) {
            refused("half " + bad, FULL, -1, t -> t.kin(bad, 0, 0));
            refused("half " + bad, FULL, -1, t -> t.kin(bad, 0, 1));
            refused("half " + bad, FULL, -1, t -> t.kin(bad, 0, 2));
            refused("other " + bad, FULL, -1, t -> t.kin(0, bad, 2));
        }
        for (int bad : beyond(0, 2)) {
            refused("what " + bad, FULL, -1, t -> t.kin(0, 0, bad));
        }
        refused("only tells", FULL, 2, t -> t.kin(7, 0, 0));
    }

    private static void bread() {
        about("25: BREAD (1 to 999 loaves); NONE: no such ones, it does not LIVE");
        due("1 loaf", fullTown().bread(8, 1), 1);
        due("999 loaves", fullTown().bread(8, 999), 999);
        refused("only tells", FULL, 3, t -> t.bread(0, 4));
        for (int bad : beyond(1, 999)) {
            refused(bad + " loaves", FULL, -1, t -> t.bread(0, bad));
        }
        for (int bad : beyond(0, 8)) {
            refused("half " + bad, FULL, -1, t -> t.bread(bad, 4));
        }
        refused("dead", FULL, -1, t -> t.bread(1, 4));
        refused("merged", FULL, -1, t -> t.bread(2, 4));
    }

    private static void vote() {
        about("26: a VOTE of a ONE on a FACT 0 to 15, what 0 to 2; NONE: no such ones");
        for (int f = 0; f < 16; f++) {
            for (int one = 0; one < 4; one++) {
                ForkTown t = townOfFour();
                t.learns(one, f, f % 2 == 0);
                due("for", t.vote(one, f, 0), f % 2 == 0 ? 4096 : 0);
                due("against", t.vote(one, f, 1), f % 2 == 0 ? 0 : 4096);
                due("comes of it", t.vote(one, f, 2), f % 2 == 0 ? 1 : 0);
                due("like ones: nobody knows", t.vote(one, (f + 1) % 16, 2), -2);
            }
        }
        due("a dead one has no vote", fullTown().vote(1, 0, 2), -2);
        for (int bad : beyond(0, 3)) {
            refused("one " + bad, FULL, -1, t -> t.vote(bad, 0, 0));
        }
        for (int bad : beyond(0, 15)) {
            refused("fact " + bad, FULL, -1, t -> t.vote(0, bad, 0));
        }
        for (int bad : beyond(0, 2)) {
            refused("what " + bad, FULL, -1, t -> t.vote(0, 0, bad));
        }
        refused("only tells", FULL, 1, t -> t.vote(0, 2, 2));
    }

    private static void seed() {
        about("27: THE SEED (0 to 65535; X, too)");
        for (int x : new int[] {0, 1, 9, 10, 32767, 32768, 65534, 65535}) {
            ForkTown t = with("");
            due("seed " + x, t.seed(x), true);
            due("x", t.count(5), x);
            t.hours(1);
            due("drawn", t.count(5), (25173L * x + 13849) % 65536);
        }
        for (int bad : beyond(0, 65535)) {
            refused("seed " + bad, FULL, 0, t -> t.seed(bad) ? 1 : 0);
        }
    }

    private static void keepAndUndo() {
        about("28, 29: KEPT: how many HALVES LIVE; UNDONE: false: none was KEPT");
        due("nobody lives", new ForkTown().keep(), 0);
        due("seven live", fullTown().keep(), 7);
        refused("none was kept", ForkTown::new, 0, t -> t.undo() ? 1 : 0);
        refused("none was kept", () -> with("c9(1=1);x5(1=1)", 0, 0, 1, 1, 1, 0, 2, 3), 0, t -> t.undo() ? 1 : 0);
        refused("kept and undone at once", () -> {
            ForkTown t = fullTown();
            t.keep();
            return t;
        }, 1, t -> t.undo() ? 1 : 0);
        ForkTown t = fullTown();
        for (int again = 0; again < 3; again++) {
            due("undone", t.undo(), true);
            due("as it was kept last", t.count(0), 2);
            due("as it was kept last", t.count(1), 4);
            t.hours(7);
        }
        t.keep();
        t.hours(1);
        due("undone", t.undo(), true);
        due("as it was kept last", t.count(0), 9);
    }

    private static ForkTown toCheck(int... weights) {
        ForkTown t = fullTown();
        t.check(0);
        for (int weight : weights) {
            feed(t, weight >> 24, weight >> 16, weight >> 8, weight);
        }
        return t;
    }

    private static void check() {
        about("30: the first n numbers of the tape (0 to 20; empty then); -2: no such n, it has not so many (the tape stays)");
        int[] right = {3072, 0, 0, 1024, 512, 2048, 1024, 512, 4096, 0, 0, 0, 0, 0, 0, 0, 0, 0, 0, 0};
        for (int n = 0; n <= 20; n++) {
            ForkTown t = fullTownWithoutTape();
            due(n + " numbers", check(t, java.util.Arrays.copyOf(right, n)), -1);
            due("empty then", t.count(4), 0);
            for (int i = 0; i < n; i++) {
                int[] wrong = java.util.Arrays.copyOf(right, n);
                wrong[i]++;
                wrong[n - 1] ^= 1 << 31;
                due("number " + i + " of " + n, check(t, wrong), i);
                due("empty then", t.count(4), 0);
            }
        }
        emptied("no numbers", FULL, -1, t -> t.check(0));
        emptied("one that is not so", FULL, 0, t -> t.check(1));
        emptied("ten of forty bytes", FULL, 0, t -> t.check(10));
        refused("eleven of forty bytes", FULL, -2, t -> t.check(11));
        refused("one of none", BoundsOfCalls::fullTownWithoutTape, -2, t -> t.check(1));
        for (int bad : new int[] {-1, 21, 65, Integer.MIN_VALUE, Integer.MAX_VALUE}) {
            refused("n " + bad, () -> toCheck(new int[13]), -2, t -> t.check(bad));
        }
        refused("n 21 of 260 bytes", () -> fed(260, "c"), -2, t -> t.check(21));
    }

    private static void countFirst() {
        about("31: 0 to 9; NONE for others");
        int[] counts = {6, 9, 7, 7, 40, 61567, 10, 0, 1, 1};
        for (int what = 0; what < 10; what++) {
            due("what " + what, fullTown().count(what), counts[what]);
        }
        for (int bad : new int[] {-1, 10, 11, 19, 52, 59, 92, 99, 132, 139, 156, 157, Integer.MIN_VALUE, Integer.MAX_VALUE}) {
            refused("what " + bad, FULL, -1, t -> t.count(bad));
        }
        for (int what = Integer.MIN_VALUE; what < Integer.MIN_VALUE + 200; what++) {
            due("what " + what, new ForkTown().count(what), -1);
        }
        refused("only tells", FULL, 6, t -> t.count(0));
    }

    private static void countNet() {
        about("31: 20 + r, 60 + r, 100 + r of ROAD r; 140 + p of PLACE p (-2: none)");
        ForkTown t = town("", 0, 1, 2, 3, 31, 15, 14, 9);
        t.notice(0, 0, false);
        t.notice(15, 15, true);
        int[] due = new int[160];
        java.util.Arrays.fill(due, -1);
        java.util.Arrays.fill(due, 140, 156, -2);
        due[20] = 1;
        due[60] = 2;
        due[100] = 3;
        due[51] = 15;
        due[91] = 14;
        due[131] = 9;
        due[140] = 0;
        due[155] = 115;
        for (int what = 10; what < 160; what++) {
            due("what " + what, t.count(what), due[what]);
        }
    }
}
