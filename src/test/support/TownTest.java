/** What the tests by hand share: asking for answers, telling a town things, and watching what a refused call changes. */
abstract class TownTest {
    private static final int LOOKS = 28;
    private static int wrong = 0;
    private static int asked = 0;
    private static String sentence = "";

    /** A way to make a town, always the same one. */
    interface Making {
        ForkTown make();
    }

    /** A call on a town; a boolean answer counts 1 or 0. */
    interface Call {
        long on(ForkTown t);
    }

    /** What the next answers are about. */
    static void about(String words) {
        sentence = words;
    }

    static void due(String what, long got, long want) {
        asked++;
        if (got != want) {
            wrong++;
            System.out.println(sentence + ": " + what + " answered " + got + ", due is " + want);
        }
    }

    static void due(String what, boolean got, boolean want) {
        due(what, got ? 1 : 0, want ? 1 : 0);
    }

    static void end() {
        System.out.println(asked + " answers asked for, " + wrong + " are not as due");
        if (wrong != 0) {
            System.exit(1);
        }
    }

    // ---------------------------------------------------------------- telling a town things

    /** Bytes come behind the tape, with 0 behind them till twenty are full. */
    static void feed(ForkTown t, int... bytes) {
        for (int i = 0; i < bytes.length; i += 20) {
            int[] w = new int[5];
            for (int k = 0; k < 20; k++) {
                w[k / 4] = w[k / 4] << 8 | (i + k < bytes.length ? bytes[i + k] & 255 : 0);
            }
            t.feed(w[0], w[1], w[2], w[3], w[4]);
        }
    }

    static void feedText(ForkTown t, String text) {
        feed(t, text.chars().toArray());
    }

    static int law(ForkTown t, String text) {
        feedText(t, text);
        return t.law(text.length());
    }

    static int history(ForkTown t, int j, String text) {
        feedText(t, text);
        return t.history(j, text.length());
    }

    static int joined(ForkTown t, int what, int... halves) {
        feed(t, halves);
        return t.joined(halves.length, what);
    }

    static int check(ForkTown t, int... weights) {
        for (int i = 0; i < weights.length; i += 5) {
            int[] w = new int[5];
            for (int k = 0; k < 5 && i + k < weights.length; k++) {
                w[k] = weights[i + k];
            }
            t.feed(w[0], w[1], w[2], w[3], w[4]);
        }
        return t.check(weights.length);
    }

    /** Hours and places in turn, as the bytes that whoWas takes. */
    static void feedSeen(ForkTown t, int... seen) {
        int[] bytes = new int[seen.length / 2 * 3];
        for (int i = 0; i < seen.length / 2; i++) {
            bytes[3 * i] = seen[2 * i] >> 8;
            bytes[3 * i + 1] = seen[2 * i];
            bytes[3 * i + 2] = seen[2 * i + 1];
        }
        feed(t, bytes);
    }

    static int whoWas(ForkTown t, int what, int... seen) {
        feedSeen(t, seen);
        return t.whoWas(seen.length / 2, what);
    }

    /** The first numbers below and above some, and the farthest ones. */
    static int[] beyond(int low, int high) {
        return new int[] {low - 1, high + 1, Integer.MIN_VALUE, Integer.MAX_VALUE};
    }

    /** Hours go by, more than 48 too. */
    static void pass(ForkTown t, int hours) {
        for (int left = hours; left > 0; left -= 48) {
            t.hours(Math.min(left, 48));
        }
    }

    // ---------------------------------------------------------------- towns

    /** A new town with a law and roads: number, from, to, length. */
    static ForkTown town(String text, int... roads) {
        ForkTown t = new ForkTown();
        for (int i = 0; i + 3 < roads.length; i += 4) {
            if (!t.road(roads[i], roads[i + 1], roads[i + 2], roads[i + 3])) {
                throw new IllegalStateException("no such road");
            }
        }
        if (!text.isEmpty() && law(t, text) < 0) {
            throw new IllegalStateException("no such law: " + text);
        }
        return t;
    }

    /** Two ways from 0 to 3, over 1 and over 2, equally long. */
    static ForkTown diamond(String text) {
        return town(text, 0, 0, 1, 1, 1, 0, 2, 1, 2, 1, 3, 1, 3, 2, 3, 1);
    }

    /** A one of three halves, on roads: 0 weighs 1024, 1 weighs 2048, 2 weighs 1024. */
    static ForkTown three(String text) {
        ForkTown t = town("c9(1=1)", 0, 0, 1, 1, 1, 0, 2, 9, 2, 1, 3, 9, 3, 1, 4, 9);
        t.comes(0, 0);
        t.hours(2);
        if (!text.isEmpty()) {
            law(t, text);
        }
        return t;
    }

    /** A ONE 0 that just came to place 0, by a law and roads. */
    static ForkTown with(String text, int... roads) {
        ForkTown t = town(text, roads);
        t.comes(0, 0);
        return t;
    }

    /**
     * A town in which all has happened, at THE HOUR 6: HALVES 0 to 8; 1 (of ONE 1) died, 2 merged into 0, 0 and 8 (of ONE 3)
     * are AT 3, the others (3 of ONE 0, 4 to 7 of ONE 2) on ROADS; it was KEPT at THE HOUR 2; the tape has 40 bytes.
     */
    static ForkTown fullTown() {
        ForkTown t = town("c9(r<6);c4(1=1);d1(i=0);b2(1=1);w2(p=3);x10(i=1&h=2);e(f=2)",
            0, 0, 1, 1, 1, 0, 2, 3, 2, 1, 3, 2, 3, 1, 0, 5, 4, 2, 3, 1, 5, 3, 0, 9, 6, 3, 4, 2, 7, 4, 3, 1, 8, 5, 0, 2, 9, 5, 1, 4);
        t.notice(1, 2, true);
        t.notice(2, 2, false);
        t.notice(3, 15, true);
        t.comes(0, 0);
        t.comes(1, 9);
        t.hours(2);
        t.keep();
        t.comes(2, 5);
        t.owes(0, 31);
        t.learns(0, 7, false);
        t.seed(4711);
        t.hours(4);
        t.comes(3, 3);
        feedText(t, "e(h=0);d5(1=1);c8(p=0)");
        return t;
    }

    // ---------------------------------------------------------------- refused calls

    /** The call is refused by this answer, and all is as if it had not been. */
    static void refused(String what, Making making, long answer, Call call) {
        due(what, call.on(making.make()), answer);
        same(what, making, call, t -> 0);
    }

    /** The call has this answer, and all is as if the tape had been emptied. */
    static void emptied(String what, Making making, long answer, Call call) {
        due(what, call.on(making.make()), answer);
        same(what, making, call, t -> t.check(0));
    }

    private static void same(String what, Making making, Call one, Call other) {
        for (int look = 0; look < LOOKS; look++) {
            ForkTown first = making.make();
            ForkTown second = making.make();
            one.on(first);
            other.on(second);
            String seen = look(first, look);
            asked++;
            if (!seen.equals(look(second, look))) {
                wrong++;
                System.out.println(sentence + ": " + what + " changed something (look " + look + ")");
            }
        }
    }

    /** A part of all that can be seen of a town; it may be changed by looking. */
    private static String look(ForkTown t, int look) {
        StringBuilder seen = new StringBuilder();
        switch (look) {
            case 0: lookAtCounts(t, seen, 156); break;
            case 1: lookAtGladness(t, seen); break;
            case 2: lookAhead(t, seen); break;
            case 3: t.hours(9); lookAtHalves(t, seen, 0); break;
            case 4: t.hours(9); lookAtCounts(t, seen, 10); break;
            case 5: seen.append(t.undo()); lookAtHalves(t, seen, 0); break;
            case 6: seen.append(t.undo()); lookAtCounts(t, seen, 10); break;
            case 7: seen.append(t.undo()); lookAtPast(t, seen, 0); break;
            case 8: seen.append(t.law(14)).append(t.gladly(0, 0)); lookAtCounts(t, seen, 10); break;
            case 9: seen.append(t.law(22)).append(t.count(3)); break;
            case 10: seen.append(t.history(0, 3)); break;
            case 11: seen.append(t.joined(2, -1)); break;
            case 12: seen.append(t.whoWas(1, 0)); break;
            case 13: seen.append(t.check(3)); break;
            case 14: lookAtHalves(t, seen, 0); break;
            case 15: lookAtHalves(t, seen, 15); break;
            case 16: lookAtHalves(t, seen, 30); break;
            case 17: lookAtHalves(t, seen, 45); break;
            case 18: lookAtHalves(t, seen, 60); break;
            case 19: seen.append(t.comes(1, 3)); lookAtHalves(t, seen, 0); break;
            default: lookAtPast(t, seen, 8 * (look - 20)); break;
        }
        return seen.toString();
    }

    private static void lookAtCounts(ForkTown t, StringBuilder seen, int many) {
        for (int what = 0; what < many; what++) {
            seen.append(t.count(what)).append(' ');
        }
    }

    private static void lookAtGladness(ForkTown t, StringBuilder seen) {
        for (int j = 0; j < 10; j++) {
            for (int r = 0; r < 32; r++) {
                seen.append(t.gladly(j, r)).append(' ');
            }
        }
    }

    private static void lookAhead(ForkTown t, StringBuilder seen) {
        for (int n : new int[] {1, 2, 5, 20, 48}) {
            for (int what = 0; what < 34; what++) {
                seen.append(t.tried(n, what)).append(' ');
            }
        }
        for (int one = 0; one < 4; one++) {
            seen.append(t.meet(one)).append(' ').append(t.plan(one, 31, 30, 0)).append(' ');
        }
    }

    private static void lookAtHalves(ForkTown t, StringBuilder seen, int from) {
        for (int j = from; j < from + 15; j++) {
            for (int what = 0; what < 36; what++) {
                seen.append(what < 11 || what > 19 ? t.half(j, what) : 0).append(' ');
            }
        }
    }

    /** The hours that are remembered, and one more on either side. */
    private static void lookAtPast(ForkTown t, StringBuilder seen, int from) {
        int hour = t.count(0);
        for (int j = from; j < from + 8; j++) {
            for (int back = -1; back <= 48; back++) {
                seen.append(t.was(j, hour - back)).append(' ');
            }
        }
    }
}
