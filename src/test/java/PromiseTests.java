/** For each promise of the document: ordinary calls, the edges it names, and wrong inputs. */
public final class PromiseTests extends TownTest {
    private PromiseTests() {
    }

    public static void main(String[] args) {
        newObject();
        roads();
        notices();
        comings();
        learning();
        owing();
        feeding();
        lawTexts();
        lawFaults();
        lawAsked();
        hoursGoing();
        hoursWaiting();
        hoursDying();
        hoursParting();
        hoursMerging();
        hoursArriving();
        trying();
        halfTold();
        gladness();
        halvesBits();
        whereWas();
        allForks();
        planning();
        planningMore();
        joining();
        choosing();
        whoItWas();
        meeting();
        building();
        closing();
        histories();
        kinship();
        breadShared();
        voting();
        seeds();
        keeping();
        checking();
        counting();
        end();
    }

    private static void newObject() {
        about("promise 1");
        ForkTown t = new ForkTown();
        due("hour", t.count(0), 0);
        due("been", t.count(1), 0);
        due("live", t.count(2), 0);
        due("clauses", t.count(3), 0);
        due("tape", t.count(4), 0);
        due("x", t.count(5), 1);
        for (int what = 6; what < 10; what++) {
            due("count " + what, t.count(what), 0);
        }
        for (int i = 0; i < 32; i++) {
            due("road " + i, t.count(20 + i), -1);
        }
        for (int p = 0; p < 16; p++) {
            due("notice " + p, t.count(140 + p), -2);
        }
        due("half", t.half(0, 0), -1);
        due("NONE", ForkTown.NONE, -1);
    }

    private static void roads() {
        about("promise 2");
        ForkTown t = new ForkTown();
        due("told", t.road(31, 15, 0, 9), true);
        due("from", t.count(51), 15);
        due("to", t.count(91), 0);
        due("long", t.count(131), 9);
        due("in place of it", t.road(31, 2, 3, 1), true);
        due("from", t.count(51), 2);
        due("to", t.count(91), 3);
        due("long", t.count(131), 1);
        due("one told", t.count(6), 1);
        int[][] none = {{-1, 0, 1, 1}, {32, 0, 1, 1}, {0, -1, 1, 1}, {0, 16, 1, 1}, {0, 0, -1, 1}, {0, 0, 16, 1},
            {0, 0, 1, 0}, {0, 0, 1, 10}, {0, 5, 5, 1}, {0, 0, 1, -3}, {31, 2, 2, 1}};
        for (int[] r : none) {
            due("road " + r[0] + " " + r[1] + " " + r[2] + " " + r[3], t.road(r[0], r[1], r[2], r[3]), false);
        }
        due("one told still", t.count(6), 1);
        due("as it was", t.count(51), 2);
        // told otherwise: as long as it had to go, to where it goes then
        t = town("c5(1=1)", 0, 0, 1, 5);
        t.comes(0, 0);
        t.hours(2);
        due("left", t.half(0, 7), 4);
        t.road(0, 7, 8, 1);
        due("left still", t.half(0, 7), 4);
        due("goes there", t.meet(0), 1 << 8);
        t.hours(3);
        due("on it", t.half(0, 6), 0);
        t.hours(1);
        due("there", t.half(0, 5), 8);
    }

    private static void notices() {
        about("promise 3");
        ForkTown t = new ForkTown();
        due("so", t.notice(15, 15, true), true);
        due("told", t.count(155), 115);
        due("not so", t.notice(15, 0, false), true);
        due("told", t.count(155), 0);
        due("no place", t.notice(16, 0, true), false);
        due("no place", t.notice(-1, 0, true), false);
        due("no fact", t.notice(15, 16, true), false);
        due("no fact", t.notice(15, -2, true), false);
        due("as it was", t.count(155), 0);
        due("none", t.notice(15, -1, true), true);
        due("told", t.count(155), -2);
    }

    private static void comings() {
        about("promise 4");
        ForkTown t = new ForkTown();
        due("first", t.comes(3, 15), 0);
        due("lives", t.comes(3, 0), -1);
        due("no one", t.comes(4, 0), -1);
        due("no one", t.comes(-1, 0), -1);
        due("no place", t.comes(0, 16), -1);
        due("no place", t.comes(0, -1), -1);
        due("second", t.comes(0, 15), 1);
        due("weight", t.half(1, 4), 4096);
        due("place", t.half(1, 5), 15);
        due("knows nothing", t.half(1, 20), -2);
        due("owes nothing", t.half(1, 9), 0);
        // it has come there in no hour: no notice, no coins, no waiting
        t = town("b7(1=1);w5(1=1)");
        t.notice(2, 4, true);
        t.comes(0, 2);
        t.hours(1);
        due("no notice", t.half(0, 24), -2);
        due("no coins", t.half(0, 9), 0);
        due("no waiting", t.half(0, 8), 0);
        // all die each hour, till 64 have been
        t = town("x10(1=1)");
        for (int j = 0; j < 64; j++) {
            due("comes", t.comes(j % 4, 3), j);
            t.hours(1);
        }
        due("64 have been", t.comes(0, 3), -1);
        due("born", t.half(63, 2), 63);
    }

    private static void learning() {
        about("promise 5");
        ForkTown t = new ForkTown();
        due("nobody", t.learns(0, 0, true), false);
        t.comes(0, 0);
        due("so", t.learns(0, 0, true), true);
        due("so", t.half(0, 20), 1);
        due("otherwise", t.learns(0, 0, false), true);
        due("not so", t.half(0, 20), 0);
        due("no fact", t.learns(0, 16, true), false);
        due("no fact", t.learns(0, -1, true), false);
        due("no half", t.learns(1, 0, true), false);
        due("no half", t.learns(-1, 0, true), false);
        due("last", t.learns(0, 15, true), true);
        due("last", t.half(0, 35), 1);
        law(t, "x10(1=1)");
        t.hours(1);
        due("dead", t.learns(0, 0, true), false);
        due("as it was last", t.half(0, 20), 0);
    }

    private static void owing() {
        about("promise 6");
        ForkTown t = new ForkTown();
        due("nobody", t.owes(0, 0), false);
        t.comes(0, 0);
        due("most", t.owes(0, 99999), true);
        due("most", t.half(0, 9), 99999);
        due("too many", t.owes(0, 100000), false);
        due("below", t.owes(0, -1), false);
        due("as it was", t.half(0, 9), 99999);
        due("none", t.owes(0, 0), true);
        due("none", t.half(0, 9), 0);
        law(t, "x10(1=1)");
        t.hours(1);
        due("dead", t.owes(0, 1), false);
    }

    private static void feeding() {
        about("promise 7");
        ForkTown t = new ForkTown();
        for (int i = 1; i <= 13; i++) {
            due("feed", t.feed(0, 0, 0, 0, 0), 20 * i);
        }
        due("full", t.feed(0, 0, 0, 0, 0), -1);
        due("still", t.count(4), 260);
        t.check(0);
        // the highest byte of each comes first
        t.comes(0, 0);
        t.feed(0x00001000, 0, 0, 0, 0x63352831);
        due("weight", t.check(5), 4);
        t.feed(0x63352831, 0x3d31297a, 0, 0, 0);
        due("a law", t.law(7), 1);
    }

    private static void lawTexts() {
        about("promise 8");
        ForkTown t = new ForkTown();
        due("no tape", t.law(1), -1);
        feed(t, "c9(1=1)".chars().toArray());
        due("no such n", t.law(0), -1);
        due("no such n", t.law(-1), -1);
        due("not so many", t.law(21), -1);
        due("tape stays", t.count(4), 20);
        due("clauses", t.law(7), 1);
        due("empty", t.count(4), 0);
        due("clauses", t.count(3), 1);
        due("fault", law(t, "c9"), -1002);
        due("empty", t.count(4), 0);
        due("the one before stays", t.count(3), 1);
        due("in place", law(t, "d9(1=1);e(1=1)"), 2);
        due("clauses", t.count(3), 2);
        StringBuilder longest = new StringBuilder("c1");
        while (longest.length() < 234) {
            longest.append("+1");
        }
        due("240 bytes", law(t, longest + "(1=1)9".substring(0, 5) + ";"), -1240);
        due("239 bytes", law(t, longest + "(1=1)"), 1);
        feed(t, new int[260]);
        due("too long", t.law(241), -1);
        due("tape stays", t.count(4), 260);
        t.check(0);
        StringBuilder many = new StringBuilder("e(h=0)");
        for (int i = 1; i < 16; i++) {
            many.append(";e(h=0)");
        }
        due("sixteen", law(t, many.toString()), 16);
        t = town("", 0, 0, 1, 1);
        t.comes(0, 0);
        for (int i = 1; i < 60; i++) {
            due("one law behind another", law(t, "c" + i + "+1-1(1=1&2=2&[3]=3)"), 1);
            due("asked", t.gladly(0, 0), i);
        }
        StringBuilder all = new StringBuilder("c7(1=1");
        StringBuilder any = new StringBuilder("c8(1=2");
        while (all.length() < 234) {
            all.append("&1=1");
            any.append("|1=2");
        }
        due("many pieces", law(t, all + ")"), 1);
        due("many pieces", t.gladly(0, 0), 7);
        due("many parts", law(t, any + ")"), 1);
        due("many parts", t.gladly(0, 0), 0);
        due("many parts", law(t, any.substring(0, 226) + "|1=1)"), 1);
        due("many parts", t.gladly(0, 0), 8);
    }

    private static void lawFaults() {
        about("promise 8, faults");
        ForkTown t = new ForkTown();
        String[] texts = {"a", "h5(1=1)", "c", "c(1=1)", "c5", "c5(", "c5()", "c5(1)", "c5(1=)", "c5(1=1", "c5(1=1);", "c5(1=1)c",
            "e5(1=1)", "e", "e(", "c5(1=1)x", "c5(1==1)", "c5((1=1)", "c5((1)=1)", "c5(1=1))", "c-5(1=1)", "c5(1=1|)", "c5(1=1&)",
            "c5(!)", "c5(1=1!)", "c[5(1=1)", "c[](1=1)", "c5](1=1)", "c5 (1=1)", "c5+(1=1)", "c5h(1=1)", "ch5(1=1)", "c5(1=1&&1=1)",
            "cg(1=1)", "c5(s=1)", "c5(1=1);;", ";c5(1=1)", "c5([1=1])", "c5(1=1=1)", "c5(!1)", "c5((1=1)=1)", "c5(1=(1=1))"};
        int[] places = {0, 0, 1, 1, 2, 3, 3, 4, 5, 6, 8, 7,
            1, 1, 2, 7, 5, 8, 5, 7, 1, 7, 7,
            4, 6, 3, 2, 2, 2, 3, 2, 2, 7,
            1, 3, 8, 0, 5, 6, 5, 8, 5};
        for (int i = 0; i < texts.length; i++) {
            due(texts[i], law(t, texts[i]), -1000 - places[i]);
        }
        due("five digits", law(t, "c12345(1=99999)"), 1);
        due("a sixth", law(t, "c123456(1=1)"), -2006);
        due("a sixth, zeros too", law(t, "c000001(1=1)"), -2006);
        due("a sixth in a piece", law(t, "c1(1=123456)"), -2010);
        due("a sixth, ahead of another", law(t, "c1(1=1234567"), -2010);
        due("six open", law(t, "c1((((((1=1))))))"), 1);
        due("seven open", law(t, "c1(((((((1=1)))))))"), -5008);
        due("not six", law(t, "c1(!!!!!1=1)"), 1);
        due("not seven", law(t, "c1(!!!!!!1=1)"), -5008);
        due("six, mixed", law(t, "c1(!(!(!1=1)))"), 1);
        due("seven, mixed", law(t, "c1(!(!(![1]=1)))"), -5008);
        due("six, brackets on both sides", law(t, "c1(!(!([1]=[1])))"), 1);
        due("six, nots and brackets", law(t, "c1(!(!([1]=[[1]])))"), -5012);
        due("a not ends with its piece", law(t, "c1(!!!!!1=1&!!!!!1=1|!!!!(1=1)&(((((1=1))))))"), 1);
        due("a not is open on the right side", law(t, "c1(!!!!!1=[1])"), -5010);
        due("the E stands ahead", law(t, "c[[[[[[1]]]]]](1=1)"), 1);
        due("seven brackets", law(t, "c[[[[[[[1]]]]]]](1=1)"), -5007);
        due("seventh that can't stand there", law(t, "c[[[[[[(1]]]]]](1=1)"), -1007);
        StringBuilder many = new StringBuilder("e(h=0)");
        for (int i = 1; i < 16; i++) {
            many.append(";e(h=0)");
        }
        for (char c : "cdbwxe".toCharArray()) {
            due("a 17th", law(t, many + ";" + c), -4112);
        }
        due("no 17th", law(t, many + ";h"), -1112);
        due("no 17th", law(t, many + ";"), -1112);
        feed(t, 'c', '5', '(', '1', '=', '1', ')', 200);
        due("a byte above 127", t.law(8), -1007);
        feed(t, 'c', '5', '(', 0);
        due("a byte 0", t.law(4), -1003);
    }

    /** How gladly a half 0 of one 2 takes road 4 (to 6, 7 long), from place 5, by a text for c. */
    private static int glad(String text) {
        ForkTown t = town("", 4, 5, 6, 7);
        t.comes(1, 3);
        t.comes(2, 5);
        t.hours(9);
        t.learns(1, 1, true);
        t.learns(1, 2, false);
        t.owes(1, 33);
        return law(t, text) > 0 ? t.gladly(1, 4) : -99;
    }

    private static void lawAsked() {
        about("promise 8, asked");
        due("h", glad("ch(1=1)"), 9);
        due("i", glad("ci(1=1)"), 2);
        due("j", glad("cj(1=1)"), 1);
        due("z", glad("cz/100(1=1)"), 40);
        due("p", glad("cp(1=1)"), 5);
        due("n", glad("cn(1=1)"), 1);
        due("m", glad("cm(1=1)"), 2);
        due("o", glad("co(1=1)"), 33);
        due("k", glad("ck(1=1)"), 9);
        due("r", glad("cr(1=1)"), 4);
        due("q", glad("cq(1=1)"), 6);
        due("l", glad("cl(1=1)"), 7);
        due("f is not told", glad("c5+f(1=1)"), 5);
        due("y is not told", glad("c5+y(1=1)"), 5);
        due("from the left", glad("c20-5-3(1=1)"), 12);
        due("from the left", glad("c40/4/5(1=1)"), 2);
        due("from the left", glad("c7*5%4(1=1)"), 3);
        due("factors first", glad("c2+3*4(1=1)"), 14);
        due("brackets", glad("c[2+3]*4(1=1)"), 20);
        due("rest of one below 0", glad("c9+[0-7]%4(1=1)"), 6);
        due("part of one below 0", glad("c9+[0-7]/4(1=1)"), 8);
        due("32 bits", glad("c5(99999*99999=1409865409)"), -99);
        due("32 bits", glad("c5(99999*99999=14098*[99999+1]+65409)"), 5);
        due("above the bound", glad("c100(1=1)"), 99);
        due("below the bound", glad("c1-2(1=1)"), 0);
        due("the first that holds", glad("c1(1=2);c2(1=1);c3(1=1)"), 2);
        due("none holds", glad("c1(1=2);c2(2=1)"), 0);
        due("another letter", glad("d1(1=1)"), 0);
        due("less", glad("c1(1<2);c2(1=1)"), 1);
        due("not less", glad("c1(2<2);c2(1=1)"), 2);
        due("more", glad("c1(2>1);c2(1=1)"), 1);
        due("not more", glad("c1(2>2);c2(1=1)"), 2);
        due("all and one", glad("c1(1=1|1=1&1=2);c2(1=1)"), 1);
        due("all and one", glad("c1(1=2&1=1|1=1);c2(1=1)"), 1);
        due("all", glad("c1(1=1&1=2);c2(1=1)"), 2);
        due("not", glad("c1(!1=2);c2(1=1)"), 1);
        due("not not", glad("c1(!!1=2);c2(1=1)"), 2);
        due("not of one piece", glad("c1(!1=2&1=2);c2(1=1)"), 2);
        due("not of some", glad("c1(!(1=2&1=1));c2(1=1)"), 1);
        due("divided by 0: an E is 0", glad("c5+1/0(1=1);c3(1=1)"), 0);
        due("rest by 0: an E is 0", glad("c5+1%0(1=1);c3(1=1)"), 0);
        due("divided by 0 in brackets", glad("c5+[1/0](1=1);c3(1=1)"), 0);
        due("divided by 0: a C does not hold", glad("c5(1/0=0);c3(1=1)"), 3);
        due("nor does its not", glad("c5(!1/0=0);c3(1=1)"), 3);
        due("nor with another part", glad("c5(1/0=0|1=1);c3(1=1)"), 3);
        due("nor in brackets", glad("c5((1/0=0)|1=1);c3(1=1)"), 3);
        due("not asked behind one that holds", glad("c5(1=1|1/0=0);c3(1=1)"), 5);
        due("not asked behind one that does not", glad("c5(1=2&1/0=0|1=1);c3(1=1)"), 5);
        due("asked behind one that holds", glad("c5(1=1&1/0=0|1=1);c3(1=1)"), 3);
        due("the right side is asked", glad("c5(1=1%0);c3(1=1)"), 3);
    }

    private static void hoursGoing() {
        about("promise 9");
        ForkTown t = town("c5(1=1)", 0, 0, 1, 1, 1, 1, 2, 9);
        due("nobody", t.hours(1), 0);
        due("hour", t.count(0), 1);
        t.comes(0, 0);
        due("one", t.hours(1), 1);
        due("road", t.half(0, 6), 0);
        due("left", t.half(0, 7), 1);
        t.hours(1);
        due("on at once", t.half(0, 6), 1);
        due("left", t.half(0, 7), 9);
        t.hours(8);
        due("left", t.half(0, 7), 1);
        t.hours(1);
        due("there", t.half(0, 5), 2);
        due("no road", t.half(0, 6), -2);
        t.hours(48);
        due("stays", t.half(0, 5), 2);
        due("no such n", t.hours(0), -1);
        due("no such n", t.hours(49), -1);
        due("no such n", t.hours(Integer.MIN_VALUE), -1);
        due("no such n", t.hours(Integer.MAX_VALUE), -1);
        for (int i = 0; i < 19; i++) {
            t.hours(48);
        }
        due("hour", t.count(0), 972);
        due("above 999", t.hours(28), -1);
        due("hour", t.count(0), 972);
        due("999", t.hours(27), 1);
        due("hour", t.count(0), 999);
        due("above 999", t.hours(1), -1);
        due("above 999", t.tried(1, 0), -1);
        due("above 999", t.plan(0, 4, 1, 0), -1);
        // the most of c, of like ones the lowest, none with 0
        t = town("c5(r=3|r=5);c4(r<9)", 1, 0, 1, 1, 3, 0, 3, 1, 5, 0, 5, 1);
        law(t, "c5(r=3);c4(1=1)");
        t.comes(0, 0);
        t.hours(1);
        due("most", t.half(0, 6), 3);
        due("is one: d is 0", t.count(2), 1);
        t = town("c0(1=1)", 1, 0, 1, 1);
        t.comes(0, 0);
        t.hours(3);
        due("stays without c", t.half(0, 5), 0);
    }

    private static void hoursWaiting() {
        about("promise 9, waiting");
        ForkTown t = town("c5(1=1);w2(p=1)", 0, 0, 1, 1, 1, 1, 2, 1);
        t.comes(0, 0);
        t.hours(2);
        due("came", t.half(0, 5), 1);
        due("waits", t.half(0, 8), 2);
        t.hours(1);
        due("still", t.half(0, 5), 1);
        due("one less", t.half(0, 8), 1);
        t.hours(1);
        due("goes", t.half(0, 6), 1);
        due("no more", t.half(0, 8), 0);
        t = town("c5(1=1);w99(p=1)", 0, 0, 1, 1);
        t.comes(0, 0);
        t.hours(2);
        due("nine at most", t.half(0, 8), 9);
    }

    private static void hoursDying() {
        about("promise 9, dying");
        // x: draws 0 .. 9 from the seed 1 on
        int x = 1;
        ForkTown t = town("x5(1=1)");
        for (int i = 0; i < 40; i++) {
            due("comes", t.comes(0, 0), i);
            x = (25173 * x + 13849) % 65536;
            due("dies below 5", t.hours(1), x % 10 < 5 ? 0 : 1);
            due("x", t.count(5), x);
            if (t.count(2) == 1) {
                law(t, "x10(1=1)");
                t.hours(1);
                x = (25173 * x + 13849) % 65536;
                law(t, "x5(1=1)");
            }
        }
        due("died", t.count(8), 40);
        // a draw for each that is at a place, by numbers, dying or not; none for those on a road
        t = town("c5(i=3)", 0, 0, 1, 9);
        t.comes(0, 0);
        t.comes(1, 0);
        t.comes(3, 0);
        t.hours(1);
        x = 1;
        for (int i = 0; i < 3; i++) {
            x = (25173 * x + 13849) % 65536;
        }
        due("three draws", t.count(5), x);
        t.hours(1);
        x = (25173 * x + 13849) % 65536;
        x = (25173 * x + 13849) % 65536;
        due("two draws", t.count(5), x);
        // mourned by themselves, on a road, too
        t = diamond("c5(1=1);x10(j=0&p=1)");
        t.road(1, 0, 2, 4);
        t.comes(0, 0);
        t.comes(1, 9);
        t.hours(2);
        due("dead", t.half(0, 3), 0);
        due("where it was", t.half(0, 5), 1);
        due("merged into none", t.half(0, 10), -2);
        due("waits 3 more", t.half(2, 8), 3);
        due("on its road", t.half(2, 7), 3);
        due("the other one does not mourn", t.half(1, 8), 0);
        t.hours(3);
        due("came, and waits", t.half(2, 5), 2);
        due("did not wait on the road", t.half(2, 8), 3);
        t.hours(2);
        due("waits", t.half(2, 8), 1);
        t.hours(1);
        due("goes", t.half(2, 6), 3);
    }

    private static void hoursParting() {
        about("promise 9, parting");
        ForkTown t = town("c9-r(1=1);d2(1=1)", 1, 0, 1, 2, 3, 0, 2, 3, 4, 0, 3, 1);
        t.comes(0, 0);
        t.learns(0, 3, true);
        t.owes(0, 50);
        t.hours(1);
        due("two", t.count(2), 2);
        due("first", t.half(0, 6), 1);
        due("second", t.half(1, 6), 3);
        due("left", t.half(1, 7), 3);
        due("half", t.half(0, 4), 2048);
        due("rest", t.half(1, 4), 2048);
        due("facts", t.half(1, 23), 1);
        due("debts twice", t.half(1, 9), 50);
        due("debts twice", t.half(0, 9), 50);
        due("parent", t.half(1, 1), 0);
        due("born", t.half(1, 2), 0);
        due("one", t.half(1, 0), 0);
        t = town("c9-r(1=1);d1(1=1)", 1, 0, 1, 2, 3, 0, 2, 3);
        t.comes(0, 0);
        t.hours(1);
        due("less by more than d", t.count(2), 1);
        due("first", t.half(0, 6), 1);
        t = town("c9-r*9(1=1);d99(1=1)", 0, 0, 1, 2, 1, 0, 2, 3);
        t.comes(0, 0);
        t.hours(1);
        due("another must be above 0", t.count(2), 1);
        t = town("c1(1=1)", 0, 0, 1, 2, 1, 0, 2, 3);
        t.comes(0, 0);
        t.hours(1);
        due("1 is above 0", t.count(2), 2);
        for (char c : "rqlfy".toCharArray()) {
            t = town("c9-r(1=1);d9*" + c + "(1=1)", 1, 0, 1, 2, 3, 0, 2, 3);
            t.comes(0, 0);
            t.hours(1);
            due("of d it is not told: " + c, t.count(2), 1);
        }
        t = town("c4(r=7);c6(r>0)", 5, 0, 1, 1, 6, 0, 2, 1, 7, 0, 3, 1);
        t.comes(0, 0);
        t.hours(1);
        due("like ones: the lowest", t.half(0, 6), 5);
        due("like ones: the next", t.half(1, 6), 6);
        // weights: rounded up, and of 1 none parts: back and forth with ever longer ways
        t = town("c9(1=1)", 0, 0, 1, 1, 1, 0, 2, 1, 2, 1, 0, 1, 3, 1, 3, 2, 4, 2, 0, 2, 5, 2, 3, 1, 6, 3, 0, 3, 7, 3, 4, 7, 8, 4, 0, 5, 9, 4, 5, 9);
        t.comes(0, 0);
        int weights = 0;
        for (int i = 0; i < 12; i++) {
            t.hours(10);
            weights = 0;
            for (int j = 0; j < t.count(1); j++) {
                weights += t.half(j, 3) * t.half(j, 4);
            }
            due("weights together", weights, 4096);
        }
        due("64 have been", t.count(1), 64);
        due("no more", t.tried(20, 1), 0);
        t = town("c9(1=1)", 0, 0, 1, 1, 1, 0, 2, 9, 2, 1, 3, 1, 3, 1, 4, 9, 4, 3, 5, 1, 5, 3, 6, 9, 6, 5, 7, 1, 7, 5, 8, 9, 8, 7, 9, 1, 9, 7, 10, 9,
            10, 9, 11, 1, 11, 9, 12, 9, 12, 11, 13, 1, 13, 11, 14, 9, 14, 13, 0, 1, 15, 13, 15, 9);
        t.comes(0, 0);
        t.hours(6);
        due("sixth", t.half(0, 4), 64);
        t.hours(6);
        due("of 1 none parts", t.half(0, 4), 1);
        due("thirteen", t.count(1), 13);
        due("together with the last", t.half(12, 4), 1);
    }

    private static void hoursMerging() {
        about("promise 9, merging");
        ForkTown t = diamond("c9(1=1)");
        t.comes(0, 0);
        t.hours(1);
        t.learns(0, 0, true);
        t.learns(1, 0, true);
        t.learns(0, 1, true);
        t.learns(1, 2, false);
        t.learns(0, 3, true);
        t.learns(1, 3, false);
        t.owes(0, 60000);
        t.owes(1, 50000);
        t.hours(2);
        due("one again", t.count(2), 1);
        due("weight", t.half(0, 4), 4096);
        due("coins", t.half(0, 9), 99999);
        due("both know", t.half(0, 20), 1);
        due("elder knows", t.half(0, 21), 1);
        due("other knows", t.half(0, 22), 0);
        due("forgotten", t.half(0, 23), -2);
        due("forgotten", t.count(7), 1);
        due("merged", t.count(9), 1);
        due("merged into", t.half(1, 10), 0);
        due("does not live", t.half(1, 3), 0);
        due("as it was last", t.half(1, 4), 2048);
        due("as it was last", t.half(1, 23), 0);
        due("as it was last", t.half(1, 5), 3);
        // an e: the elder one is believed; f and y are told, any e will do
        t = diamond("c9(1=1);e(f=2);e(f=3&y=1&j=0);e(f=4&y=0)");
        t.comes(0, 0);
        t.hours(1);
        for (int f = 1; f < 5; f++) {
            t.learns(0, f, f == 3);
            t.learns(1, f, f != 3);
        }
        t.hours(2);
        due("no e", t.half(0, 21), -2);
        due("an e", t.half(0, 22), 0);
        due("another e", t.half(0, 23), 1);
        due("no e", t.half(0, 24), -2);
        due("forgotten", t.count(7), 2);
        // e is asked before they are one
        t = diamond("c9(1=1);e(f=0&z=2048);e(f=1&n=2);e(f=2&o=5);e(f=3&m=4);e(f=4&p=3)");
        t.comes(0, 0);
        t.hours(1);
        t.owes(0, 5);
        t.owes(1, 5);
        for (int f = 0; f < 4; f++) {
            t.learns(0, f, true);
            t.learns(1, f, false);
        }
        t.hours(2);
        due("forgotten", t.count(7), 0);
        // who stays and one who comes merge too; the longer waiting stays
        t = town("c9(p=0);w5(j=1);w2(j=0)", 0, 0, 1, 1, 1, 0, 1, 3);
        t.comes(0, 0);
        t.hours(2);
        due("waits", t.half(0, 8), 2);
        t.hours(2);
        due("one", t.count(2), 1);
        due("merged with one that came: w again", t.half(0, 8), 2);
        // three at once, by numbers
        t = town("c9(1=1);d9(1=1)", 0, 0, 1, 1, 1, 0, 2, 2, 2, 1, 3, 1, 3, 1, 4, 1, 4, 3, 5, 1, 5, 4, 5, 1, 6, 2, 5, 1);
        t.comes(2, 0);
        t.hours(2);
        due("three", t.count(2), 3);
        t.learns(0, 0, true);
        t.learns(1, 0, false);
        t.learns(2, 0, false);
        t.hours(2);
        due("one", t.count(2), 1);
        due("forgotten, then known of the third", t.half(0, 20), 0);
        due("first with the next", t.half(1, 10), 0);
        due("then with the next", t.half(2, 10), 0);
        // two ones do not merge
        t = new ForkTown();
        t.comes(0, 0);
        t.comes(1, 0);
        due("two ones", t.hours(1), 2);
    }

    private static void hoursArriving() {
        about("promise 9, arriving");
        ForkTown t = town("c9(1=1);b3+m(1=1);w1(o>3)", 0, 0, 1, 1, 1, 1, 0, 1);
        t.notice(1, 7, true);
        t.comes(0, 0);
        t.learns(0, 7, false);
        t.hours(1);
        due("not yet", t.half(0, 27), 0);
        t.hours(1);
        due("as it stands there", t.half(0, 27), 1);
        due("owes b, the notice known", t.half(0, 9), 4);
        due("w by what it owes then", t.half(0, 8), 1);
        t.hours(1);
        due("not twice", t.half(0, 9), 4);
        t = town("c9(1=1);b1000(1=1)", 0, 0, 1, 1);
        t.comes(0, 0);
        t.owes(0, 99990);
        t.hours(2);
        due("99999 at most", t.half(0, 9), 99999);
        t = town("c9(1=1);b1000(1=1)", 0, 0, 1, 1);
        t.comes(0, 0);
        t.hours(2);
        due("999 at most", t.half(0, 9), 999);
        // one that was there merges with one that came: it counts as one that came
        t = town("c9(p=0);b5(p=1)", 0, 0, 1, 1, 1, 0, 1, 3);
        t.comes(0, 0);
        t.hours(2);
        due("came", t.half(0, 9), 5);
        t.notice(1, 2, true);
        t.hours(2);
        due("again", t.half(0, 9), 10);
        due("knows", t.half(0, 22), 1);
    }

    private static void trying() {
        about("promise 10");
        ForkTown t = diamond("c9(1=1);b4(1=1);x1(p=9)");
        t.comes(0, 0);
        t.comes(3, 9);
        t.learns(0, 0, true);
        t.notice(1, 0, false);
        due("live", t.tried(2, 0), 3);
        due("parted", t.tried(2, 1), 1);
        due("merged", t.tried(2, 2), 0);
        due("merged", t.tried(3, 2), 1);
        due("forgotten", t.tried(2, 4), 0);
        due("forgotten", t.tried(3, 4), 1);
        due("of 0", t.tried(2, 10), 2);
        due("of 1", t.tried(2, 11), 0);
        due("of 3", t.tried(2, 13), 1);
        due("weight", t.tried(2, 20), 4096);
        due("weight", t.tried(2, 21), 0);
        due("coins", t.tried(2, 30), 8);
        due("coins", t.tried(3, 30), 12);
        due("coins", t.tried(3, 33), 0);
        due("nothing is changed", t.count(0), 0);
        due("nothing is changed", t.count(5), 1);
        due("nothing is changed", t.count(1), 2);
        due("nothing is changed", t.was(0, 1), -3);
        int first = 0;
        for (int n = 48; n >= 1; n--) {
            first = t.tried(n, 3) == 1 ? n : first;
        }
        due("it dies some time", first > 1, true);
        t.hours(first - 1);
        due("lives", t.half(1, 3), 1);
        due("dies in the next", t.tried(1, 3), 1);
        t.hours(1);
        due("by the same draws", t.half(1, 3), 0);
        due("no n", t.tried(0, 0), -1);
        due("no n", t.tried(49, 0), -1);
        for (int what : new int[] {-1, 5, 9, 14, 19, 24, 29, 34, 40, Integer.MIN_VALUE, Integer.MAX_VALUE}) {
            due("no what " + what, t.tried(1, what), -1);
        }
    }

    private static void halfTold() {
        about("promise 11");
        ForkTown t = diamond("c9(1=1)");
        t.hours(3);
        t.comes(2, 0);
        int[] come = {2, -2, 3, 1, 4096, 0, -2, 0, 0, 0, -2, -1};
        for (int what = 0; what < come.length; what++) {
            due("what " + what, t.half(0, what), come[what]);
        }
        t.hours(1);
        int[] first = {2, -2, 3, 1, 2048, -2, 0, 1, 0, 0, -2, -1};
        int[] second = {2, 0, 3, 1, 2048, -2, 1, 1, 0, 0, -2, -1};
        for (int what = 0; what < first.length; what++) {
            due("what " + what, t.half(0, what), first[what]);
            due("what " + what, t.half(1, what), second[what]);
        }
        due("fact", t.half(0, 19), -1);
        due("fact", t.half(0, 20), -2);
        due("fact", t.half(0, 35), -2);
        due("fact", t.half(0, 36), -1);
        due("what", t.half(0, -1), -1);
        due("no half", t.half(2, 0), -1);
        due("no half", t.half(-1, 0), -1);
        due("no half", t.half(64, 0), -1);
    }

    private static void gladness() {
        about("promise 12");
        ForkTown t = town("c5+r(1=1)", 0, 0, 1, 2, 1, 2, 0, 1, 2, 0, 2, 1);
        due("nobody", t.gladly(0, 0), -1);
        t.comes(0, 0);
        due("glad", t.gladly(0, 0), 5);
        due("glad", t.gladly(0, 2), 7);
        due("not from there", t.gladly(0, 1), -2);
        due("not told", t.gladly(0, 3), -1);
        due("no road", t.gladly(0, 32), -1);
        due("no road", t.gladly(0, -1), -1);
        due("no half", t.gladly(1, 0), -1);
        due("no half", t.gladly(-1, 0), -1);
        t.hours(1);
        due("on a road", t.gladly(0, 2), -1);
        law(t, "x10(1=1)");
        t.hours(2);
        due("dead", t.gladly(0, 1), -1);
    }

    private static void halvesBits() {
        about("promise 13");
        ForkTown t = town("x10(i=0)");
        for (int j = 0; j < 36; j++) {
            t.comes(0, 1);
            t.hours(1);
        }
        due("none", t.halves(0, 0), 0);
        t.comes(1, 1);
        t.comes(0, 1);
        due("36", t.halves(1, 2), 1 << 4);
        due("37", t.halves(0, 2), 1 << 5);
        due("not there", t.halves(0, 3), 0);
        due("no one", t.halves(4, 0), -1);
        due("no one", t.halves(-1, 0), -1);
        due("no what", t.halves(0, 4), -1);
        due("no what", t.halves(0, -1), -1);
    }

    private static void whereWas() {
        about("promise 14");
        ForkTown t = diamond("c9(1=1);w1(p<3)");
        due("no half", t.was(0, 0), -1);
        t.hours(2);
        t.comes(0, 0);
        due("not yet in town", t.was(0, 1), -2);
        due("now", t.was(0, 2), 0);
        due("not yet", t.was(0, 3), -3);
        due("no hour", t.was(0, -1), -3);
        t.hours(4);
        // 2: at 0; 3: on roads; 4: at 1 and 2; 5: on roads; 6: at 3
        int[] first = {-2, -2, 0, -2, 1, -2, 3};
        int[] second = {-2, -2, 0, -2, 2, -2, -2};
        for (int hour = 0; hour < 7; hour++) {
            due("first, hour " + hour, t.was(0, hour), first[hour]);
            due("second, hour " + hour, t.was(1, hour), second[hour]);
        }
        t.hours(43);
        due("hour", t.count(0), 49);
        due("not remembered", t.was(0, 1), -3);
        due("remembered", t.was(0, 2), 0);
        t.hours(1);
        due("not remembered", t.was(0, 2), -3);
        due("on a road", t.was(0, 3), -2);
        due("at 2", t.was(1, 4), 2);
        law(t, "x10(1=1)");
        t.hours(1);
        due("was there when it began", t.was(0, 50), 3);
        due("dead by then", t.was(0, 51), -2);
        due("no half", t.was(2, 50), -1);
        due("no half", t.was(-1, 50), -1);
    }

    private static void allForks() {
        about("promise 15");
        ForkTown t = town("", 0, 0, 1, 1, 1, 0, 1, 1, 2, 1, 0, 1, 3, 1, 0, 1);
        for (int n = 0; n < 61; n++) {
            due("two to the n", t.byForks(0, n), 1L << n);
        }
        for (int r = 4; r < 32; r++) {
            t.road(r, r % 2, 1 - r % 2, 1);
        }
        due("by 64 bits", t.byForks(1, 15), 1L << 60);
        due("by 64 bits", t.byForks(1, 16), 0);
        due("stays", t.byForks(5, 60), 1);
        t = town("", 0, 0, 1, 3, 1, 0, 2, 1, 2, 1, 0, 2, 3, 1, 2, 1);
        int[] many = {1, 2, 2, 2, 3, 3, 4};
        for (int n = 0; n < many.length; n++) {
            due("hours " + n, t.byForks(0, n), many[n]);
        }
        due("no place", t.byForks(16, 0), -1);
        due("no place", t.byForks(-1, 0), -1);
        due("no n", t.byForks(0, 61), -1);
        due("no n", t.byForks(0, -1), -1);
    }

    private static void planning() {
        about("promise 16");
        ForkTown t = diamond("c9-r(1=1);d50(1=1);x10(1=1)");
        t.comes(0, 0);
        due("hours", t.plan(0, 14, 9, 0), 3);
        due("doubts", t.plan(0, 14, 9, 1), 1);
        due("at most", t.plan(0, 14, 9, 2), 2);
        due("without doubt", t.plan(0, 2, 9, 0), 2);
        due("without doubt", t.plan(0, 2, 9, 1), 0);
        due("without doubt", t.plan(0, 2, 9, 2), 1);
        due("by doubt", t.plan(0, 4, 9, 0), 3);
        due("now", t.plan(0, 1, 9, 0), 0);
        due("now", t.plan(0, 0, 9, 1), 0);
        due("now", t.plan(0, 1, 9, 2), 1);
        due("too late", t.plan(0, 14, 2, 0), -2);
        due("too late", t.plan(0, 14, 2, 2), -2);
        due("just in time", t.plan(0, 14, 3, 0), 3);
        due("never", t.plan(0, 16, 48, 1), -2);
        due("no one", t.plan(4, 1, 1, 0), -1);
        due("no one", t.plan(-1, 1, 1, 0), -1);
        due("all places", t.plan(0, 65535, 1, 0), -2);
        due("no places", t.plan(0, -1, 1, 0), -1);
        due("no places", t.plan(0, 65536, 1, 0), -1);
        due("no n", t.plan(0, 1, 0, 0), -1);
        due("no n", t.plan(0, 1, 49, 0), -1);
        due("no what", t.plan(0, 1, 1, 3), -1);
        due("no what", t.plan(0, 1, 1, -1), -1);
        due("not in town", t.plan(1, 0, 1, 0), -1);
        due("nothing is changed", t.count(0), 0);
        law(t, "c9(1=1)");
        t.hours(1);
        due("two live", t.plan(0, 0, 1, 0), -1);
        t.hours(2);
        due("one again", t.plan(0, 8, 1, 0), 0);
        t = town("c9(1=1)", 0, 0, 1, 2);
        t.comes(0, 0);
        t.hours(1);
        due("on a road", t.plan(0, 0, 1, 0), -1);
    }

    private static void planningMore() {
        about("promise 16, more");
        // nine forks in a row: only at the lowest eight of them one can doubt
        ForkTown t = new ForkTown();
        for (int p = 0; p < 9; p++) {
            t.road(2 * p, p, p + 1, 1);
            t.road(2 * p + 1, p, 15, 9 - p);
        }
        t.road(18, 9, 15, 1);
        law(t, "c9(r%2=0);c5(1=1)");
        t.comes(0, 7);
        due("the eighth", t.plan(0, 1 << 15 | 1 << 8, 48, 0), 4);
        due("needs no doubt", t.plan(0, 1 << 15 | 1 << 8, 48, 1), 0);
        for (int p = 0; p < 8; p++) {
            t = town("c9-r%2(1=1)", 20, 8, 9, 1, 21, 8, 10, 1, 22, 9, 11, 1, 24, 10, 11, 1);
            for (int q = 0; q < 8; q++) {
                t.road(q, q, 12, 1);
                if (q != p) {
                    t.road(10 + q, q, 13, 1);
                }
            }
            t.comes(0, 8);
            due("the eighth fork", t.plan(0, 1 << 10, 9, 0), 3);
            due("the eighth fork", t.plan(0, 1 << 10, 9, 1), 1 << 8);
            t.road(10 + p, p, 13, 1);
            due("the ninth fork", t.plan(0, 1 << 10, 9, 0), -2);
        }
        // the fewest hours, though by greater bits: with doubt at 0 it takes 6, at 1 only 5
        t = town("c9-r%2(1=1)", 0, 0, 1, 1, 1, 0, 2, 1, 2, 1, 3, 1, 3, 1, 4, 1, 4, 2, 4, 2, 6, 3, 5, 2, 8, 4, 5, 2);
        t.comes(0, 0);
        due("at 1 alone", t.plan(0, 1 << 4, 9, 0), 5);
        due("at 1 alone", t.plan(0, 1 << 4, 9, 1), 2);
        due("at 0 alone", t.plan(0, 1 << 2, 9, 0), 6);
        due("at 0 alone", t.plan(0, 1 << 2, 9, 1), 1);
        due("most", t.plan(0, 1 << 2, 9, 2), 2);
        // the fewest hours, of like ones the least bits
        t = town("c9-r(1=1)", 0, 0, 1, 2, 1, 0, 2, 1, 2, 1, 3, 1, 3, 2, 3, 1, 4, 2, 3, 2, 5, 1, 3, 2);
        t.comes(0, 0);
        due("not soonest, but needed", t.plan(0, 12, 20, 0), 4);
        due("doubts", t.plan(0, 12, 20, 1), 1);
        // nobody dies, all others go by the law
        t = diamond("c9-r(1=1);x10(1=1);d1(i=1)");
        t.comes(1, 0);
        t.comes(0, 0);
        due("nobody dies", t.plan(0, 14, 9, 0), 3);
        law(t, "c9-r-j/3*9(1=1);d1(i=1)");
        due("others part too and take numbers", t.plan(0, 14, 9, 0), -2);
        law(t, "c9-r-j/3*9(1=1)");
        due("others do not part by his doubts", t.plan(0, 14, 9, 0), 3);
        // he may be one in between and part again
        t = town("c9-r%2(1=1)", 0, 0, 1, 1, 1, 0, 2, 1, 2, 1, 3, 1, 4, 2, 3, 1, 6, 3, 4, 1, 7, 3, 5, 1, 8, 4, 6, 1, 10, 5, 6, 1);
        t.comes(0, 0);
        due("both diamonds", t.plan(0, 1 << 2 | 1 << 5, 20, 0), 5);
        due("both doubts", t.plan(0, 1 << 2 | 1 << 5, 20, 1), 9);
        due("two at most", t.plan(0, 1 << 2 | 1 << 5, 20, 2), 2);
        due("the second alone", t.plan(0, 1 << 5, 20, 1), 8);
    }

    private static void joining() {
        about("promise 17");
        ForkTown t = three("c1(1=1)");
        due("no tape", t.joined(2, -1), -1);
        t.learns(0, 0, true);
        t.learns(1, 0, false);
        t.learns(2, 0, false);
        due("known in the end", joined(t, -1, 2, 1, 0), 1);
        due("the least row", joined(t, 0, 2, 1, 0), 0);
        due("the least row", joined(t, 1, 2, 1, 0), 1);
        due("the least row", joined(t, 2, 2, 1, 0), 2);
        t.learns(1, 0, true);
        due("the first two must clash", joined(t, -1, 0, 1, 2), 1);
        due("row", joined(t, 0, 0, 1, 2), 0);
        due("row", joined(t, 1, 0, 1, 2), 2);
        due("row", joined(t, 2, 0, 1, 2), 1);
        due("no such place", joined(t, 3, 0, 1, 2), -3);
        due("no such place", joined(t, -2, 0, 1, 2), -3);
        due("one twice", joined(t, -1, 0, 1, 0), -2);
        due("no such half", joined(t, -1, 0, 3), -2);
        due("no such half", joined(t, 9, 0, 200), -2);
        due("empty then", t.count(4), 0);
        t.comes(1, 5);
        due("of two ones", joined(t, -1, 0, 3), -2);
        due("of two ones", joined(t, -1, 3, 0), -2);
        feed(t, 0, 1, 2);
        due("no such n", t.joined(1, -1), -1);
        due("no such n", t.joined(6, -1), -1);
        due("the tape stays", t.count(4), 20);
        due("the first n", t.joined(2, -1), 1);
        due("nothing is changed", t.half(0, 10), -2);
        // one that gets both facts, but for the last of them: 0
        t = three("c1(1=1)");
        t.learns(0, 0, true);
        t.learns(1, 0, true);
        t.learns(2, 0, false);
        t.learns(0, 1, true);
        t.learns(1, 1, false);
        t.learns(2, 1, true);
        due("both", joined(t, -1, 0, 1, 2), 2);
        due("row", joined(t, 0, 0, 1, 2), 1);
        due("row", joined(t, 1, 0, 1, 2), 2);
        due("row", joined(t, 2, 0, 1, 2), 0);
        // e by the numbers: the elder one of those that have joined, as it is now
        t = three("e(j=0&y=2)");
        t.learns(0, 4, true);
        t.learns(1, 4, true);
        t.learns(2, 4, false);
        t.learns(0, 5, true);
        t.learns(2, 5, false);
        due("believed of 2", joined(t, -1, 0, 2), 2);
        t.learns(1, 5, true);
        due("not of 1", joined(t, -1, 1, 2), 0);
        due("in the best order", joined(t, -1, 2, 1, 0), 2);
        due("in the best order", joined(t, 1, 2, 1, 0), 1);
        law(t, "e(j=1&y=2&p=0&n=3&z=1024)");
        due("on a road p is 0", joined(t, -1, 1, 2), 0);
        due("weight as it is now", t.half(1, 4), 2048);
        law(t, "e(j=1&y=2&p=0&n=3&z=2048)");
        due("as it is now", joined(t, -1, 1, 2), 2);
        t.hours(48);
        law(t, "x10(j=2)");
        t.hours(1);
        due("one that does not live", joined(t, -1, 0, 2), -2);
    }

    private static void choosing() {
        about("promise 18");
        ForkTown t = town("c9(r=0);c8(r=1);c3(r=2)", 0, 0, 1, 1, 1, 0, 2, 1, 2, 0, 3, 1, 3, 0, 4, 1);
        t.comes(0, 0);
        t.comes(1, 0);
        t.comes(2, 1);
        due("two", t.chosen(0, 1, 0), 2);
        due("first", t.chosen(0, 1, 1), 0);
        due("first", t.chosen(0, 1, 2), 1);
        law(t, "c9(r=0);c4(r=1)");
        due("the same one: 4 is as much", t.chosen(0, 1, 0), 3);
        due("first", t.chosen(0, 1, 1), 0);
        due("first", t.chosen(0, 1, 2), 0);
        law(t, "c9(r=0);c4(r=1&j=0);c5(r=1)");
        due("half of 9 is less than 5", t.chosen(0, 1, 0), 2);
        due("of 4 it is not", t.chosen(0, 1, 2), 1);
        law(t, "c4(r=0);c8(r=1&j=0);c9(r=1)");
        due("half of 8 is as much as 4", t.chosen(0, 1, 0), 3);
        law(t, "c3(r=0);c7(r=1)");
        due("half of 7 is as much as 3", t.chosen(0, 1, 0), 3);
        law(t, "c2(r=0);c7(r=1)");
        due("half of 7 is more than 2", t.chosen(0, 1, 0), 1);
        law(t, "c4(r=0);c7(r=1)");
        due("half of 7 is less than 4", t.chosen(0, 1, 0), 2);
        law(t, "c9(r=0&j=0);c1(r=2&j=1)");
        due("one", t.chosen(0, 1, 0), 1);
        due("one", t.chosen(0, 1, 1), 0);
        due("one", t.chosen(0, 1, 2), 2);
        due("the other way", t.chosen(1, 0, 1), 2);
        due("the other way", t.chosen(1, 0, 2), 0);
        law(t, "c1(r=3)");
        due("half of 1 is 0", t.chosen(0, 1, 0), 1);
        due("the same", t.chosen(0, 1, 2), 3);
        law(t, "c9(r=0&j=0)");
        due("one has none", t.chosen(0, 1, 0), 0);
        due("none", t.chosen(0, 1, 1), -2);
        due("none", t.chosen(0, 1, 2), -2);
        due("one twice", t.chosen(0, 0, 0), -1);
        due("not at one place", t.chosen(0, 2, 0), -1);
        due("no half", t.chosen(0, 3, 0), -1);
        due("no half", t.chosen(-1, 0, 0), -1);
        due("no what", t.chosen(0, 1, 3), -1);
        due("no what", t.chosen(0, 1, -1), -1);
        law(t, "c1(1=1)");
        t.hours(1);
        due("on a road", t.chosen(0, 1, 0), -1);
    }

    private static void whoItWas() {
        about("promise 19");
        ForkTown t = diamond("c9(1=1);w1(p<3)");
        t.comes(0, 0);
        t.comes(1, 0);
        t.hours(4);
        // 0: at 0; 2: at 1 and 2; 4: at 3
        due("all four", whoWas(t, 0, 0, 0), 4);
        due("first", whoWas(t, 1, 0, 0), 0);
        due("over 2", whoWas(t, 0, 0, 0, 2, 2), 2);
        due("over 2", whoWas(t, 1, 0, 0, 2, 2), 2);
        due("at the hour", whoWas(t, 0, 4, 3), 2);
        due("those that merged are not seen", whoWas(t, 0, 2, 2, 4, 3), 0);
        due("none", whoWas(t, 1, 2, 2, 4, 3), -2);
        due("on roads", whoWas(t, 0, 1, 0), 0);
        due("no such place", whoWas(t, 0, 0, 16), -2);
        due("not begun", whoWas(t, 0, 5, 3), -2);
        due("empty then", t.count(4), 0);
        due("no tape", t.whoWas(1, 0), -1);
        feed(t, 0, 0, 0);
        due("no n", t.whoWas(0, 0), -1);
        due("no n", t.whoWas(9, 0), -1);
        due("not so many", t.whoWas(7, 0), -1);
        due("no what", t.whoWas(1, 2), -1);
        due("no what", t.whoWas(1, -1), -1);
        due("the tape stays", t.count(4), 20);
        t.check(0);
        t.hours(43);
        due("remembered", whoWas(t, 0, 0, 0), 4);
        due("eight", whoWas(t, 0, 0, 0, 2, 1, 4, 3, 5, 3, 6, 3, 7, 3, 8, 3, 47, 3), 2);
        t.hours(1);
        due("not remembered", whoWas(t, 0, 0, 0), -2);
        for (int i = 0; i < 5; i++) {
            t.hours(48);
        }
        due("hour", t.count(0), 288);
        due("two bytes", whoWas(t, 0, 288, 3), 2);
        due("two bytes", whoWas(t, 0, 280 - 256, 3), -2);
    }

    private static void meeting() {
        about("promise 20");
        ForkTown t = town("c9(1=1)", 0, 0, 1, 2, 1, 0, 2, 2, 2, 1, 3, 1, 3, 2, 3, 1, 4, 2, 4, 1);
        due("none lives", t.meet(0), 65535);
        t.comes(0, 0);
        due("from one place", t.meet(0), 31);
        t.hours(1);
        due("where they go", t.meet(0), 8);
        due("another one", t.meet(3), 65535);
        t.road(2, 1, 5, 1);
        due("nowhere", t.meet(0), 0);
        due("no one", t.meet(4), -1);
        due("no one", t.meet(-1), -1);
    }

    private static void building() {
        about("promise 21");
        ForkTown t = new ForkTown();
        due("none", t.built(0), 0);
        due("none", t.built(1), 0);
        due("none", t.built(2), 0);
        t.road(0, 5, 6, 1);
        due("one", t.built(0), 0);
        due("one", t.built(1), 1);
        due("one", t.built(2), 64);
        t.road(1, 5, 2, 1);
        due("two", t.built(0), 1);
        due("two", t.built(1), 2);
        due("the lowest", t.built(2), 4);
        t.road(2, 2, 9, 1);
        t.road(3, 9, 2, 1);
        due("a group", t.built(1), 2);
        due("a group", t.built(2), 4 | 1 << 9);
        t.road(4, 9, 5, 1);
        due("one comes out", t.built(0), 0);
        due("one comes out", t.built(2), 64);
        t.road(5, 6, 9, 1);
        due("all in one", t.built(1), 1);
        due("all in one", t.built(2), 4 | 32 | 64 | 1 << 9);
        due("no what", t.built(3), -1);
        due("no what", t.built(-1), -1);
    }

    private static void closing() {
        about("promise 22");
        ForkTown t = town("", 0, 0, 1, 1, 1, 0, 2, 1, 2, 1, 3, 1, 3, 2, 3, 1, 4, 3, 4, 1);
        due("both", t.closed(0, 3, 0), 2);
        due("both", t.closed(0, 3, 1), 6);
        due("one", t.closed(0, 4, 0), 1);
        due("one", t.closed(0, 4, 1), 8);
        due("a road goes", t.closed(0, 1, 0), -2);
        due("a road goes", t.closed(0, 1, 1), -2);
        due("not back", t.closed(1, 0, 0), 0);
        due("not back", t.closed(1, 0, 1), 0);
        t.road(5, 4, 5, 1);
        due("the least bits", t.closed(0, 5, 1), 8);
        t.road(6, 0, 6, 1);
        t.road(7, 6, 3, 1);
        t.road(8, 3, 7, 1);
        t.road(9, 7, 5, 1);
        due("still one", t.closed(0, 5, 1), 8);
        t.road(10, 6, 7, 1);
        due("two", t.closed(0, 5, 0), 2);
        due("the least bits", t.closed(0, 5, 1), 8 | 64);
        due("one twice", t.closed(3, 3, 0), -1);
        due("no place", t.closed(16, 3, 0), -1);
        due("no place", t.closed(3, 16, 0), -1);
        due("no place", t.closed(-1, 3, 0), -1);
        due("no place", t.closed(3, -1, 0), -1);
        due("no what", t.closed(0, 3, 2), -1);
        due("no what", t.closed(0, 3, -1), -1);
        // all fourteen between
        t = new ForkTown();
        for (int p = 0; p < 14; p++) {
            t.road(2 * p, 14, p, 1);
            t.road(2 * p + 1, p, 15, 1);
        }
        due("all", t.closed(14, 15, 0), 14);
        due("all", t.closed(14, 15, 1), 0x3fff);
    }

    private static void histories() {
        about("promise 23");
        ForkTown t = diamond("c9(1=1);w1(p<3)");
        due("no half", history(t, 0, "0@0"), -1);
        due("the tape stays", t.count(4), 20);
        t.check(0);
        t.comes(0, 0);
        t.hours(4);
        due("all", history(t, 0, "0@0,1@2,3@4"), 3);
        due("all", history(t, 1, "00@000,02@2"), 2);
        due("not", history(t, 1, "0@0,1@2,7@3"), 1);
        due("merged by then", history(t, 1, "0@0,2@2,3@4"), 2);
        due("not begun", history(t, 0, "3@4,3@5"), 1);
        due("on a road", history(t, 0, "0@1"), 0);
        String[] texts = {"x", "0", "0@", "0@0,", "0@0;", "0@0,0", "@0", "123@0", "0@1234", "16@0", "99", "1x@0", "0@5,0@5", "0@5,0@4",
            "0@5,0@4x", "0@5,16@9", "0@5,17", "0@5,0@6,", "0@5,3@005", "0@12,0@012,", "0@0,,", "0@0 ", "0@-1", "0@5,0@49999"};
        int[] faults = {-1000, -1001, -1002, -1004, -1003, -1005, -1000, -1002, -1005, -3000, -3000, -1001, -6006, -6006,
            -6006, -3004, -3004, -1008, -6006, -6007, -1004, -1003, -1002, -1009};
        for (int i = 0; i < texts.length; i++) {
            due(texts[i], history(t, 0, texts[i]), faults[i]);
            due("empty then", t.count(4), 0);
        }
        due("three digits first", history(t, 0, "012@0"), -1002);
        feed(t, "0@0".chars().toArray());
        due("no half", t.history(2, 3), -1);
        due("no half", t.history(-1, 3), -1);
        due("no n", t.history(0, 0), -1);
        due("no n", t.history(0, 61), -1);
        due("not so many", t.history(0, 21), -1);
        due("the tape stays", t.count(4), 20);
        t.check(0);
        due("60 bytes", history(t, 0, "0@0,0@1,0@2,0@3,0@4,0@5,0@6,0@7,0@8,0@9,0@10,0@11,0@12,0@013"), 1);
        feed(t, new int[80]);
        due("61", t.history(0, 61), -1);
        t.check(0);
        t.hours(43);
        due("remembered", history(t, 0, "9@0"), 0);
        t.hours(1);
        due("remembered no more", history(t, 0, "9@0"), 1);
        due("remembered no more, then one that is", history(t, 0, "9@0,5@2"), 1);
    }

    private static void kinship() {
        about("promise 24");
        ForkTown t = three("");
        t.comes(1, 9);
        due("itself", t.kin(0, 0, 0), 1);
        due("two", t.kin(1, 0, 0), 2);
        due("first", t.kin(2, 0, 1), 0);
        due("first", t.kin(3, 0, 1), 3);
        due("in common", t.kin(1, 2, 2), 0);
        due("itself", t.kin(2, 2, 2), 2);
        due("none", t.kin(1, 3, 2), -2);
        due("none", t.kin(3, 1, 2), -2);
        due("no other", t.kin(0, 4, 2), -1);
        due("no other", t.kin(0, -1, 2), -1);
        due("no half", t.kin(4, 0, 0), -1);
        due("no half", t.kin(-1, 0, 0), -1);
        due("no what", t.kin(0, 0, 3), -1);
        due("no what", t.kin(0, 0, -1), -1);
        // 1 of 0, 2 of 0, 3 of 1
        t = town("c9(1=1)", 0, 0, 1, 9, 1, 0, 2, 1, 2, 2, 3, 1, 3, 2, 4, 1, 4, 3, 5, 1, 5, 3, 6, 1);
        t.comes(0, 0);
        t.hours(3);
        due("four", t.count(1), 4);
        due("of 1", t.half(2, 1), 1);
        due("of 1", t.half(3, 1), 1);
        due("three", t.kin(3, 0, 0), 3);
        due("in common", t.kin(3, 2, 2), 1);
        due("with its parent", t.kin(3, 1, 2), 1);
        due("with the first", t.kin(0, 3, 2), 0);
    }

    private static void breadShared() {
        about("promise 25");
        ForkTown t = three("");
        // weights 1024, 2048, 1024
        due("whole", t.bread(0, 4), 1);
        due("whole", t.bread(1, 4), 2);
        due("whole", t.bread(2, 4), 1);
        due("the greatest rest", t.bread(1, 1), 1);
        due("the greatest rest", t.bread(0, 1), 0);
        due("like rests: the lowest", t.bread(0, 2), 1);
        due("like rests: the lowest", t.bread(2, 2), 0);
        due("three", t.bread(0, 3), 1);
        due("three", t.bread(1, 3), 1);
        due("three", t.bread(2, 3), 1);
        due("most", t.bread(1, 999), 499);
        due("most", t.bread(0, 999), 250);
        due("most", t.bread(2, 999), 250);
        t.comes(1, 3);
        due("another one", t.bread(3, 7), 7);
        due("none", t.bread(0, 0), -1);
        due("too many", t.bread(0, 1000), -1);
        due("no half", t.bread(4, 1), -1);
        due("no half", t.bread(-1, 1), -1);
        law(t, "x10(j=1)");
        t.hours(10);
        due("dead", t.bread(1, 1), -1);
        due("of those that live", t.bread(0, 3), 2);
        due("of those that live", t.bread(2, 3), 1);
    }

    private static void voting() {
        about("promise 26");
        ForkTown t = three("");
        t.learns(0, 9, true);
        t.learns(1, 9, false);
        due("for", t.vote(0, 9, 0), 1024);
        due("against", t.vote(0, 9, 1), 2048);
        due("not so", t.vote(0, 9, 2), 0);
        t.learns(2, 9, true);
        due("like ones", t.vote(0, 9, 2), -2);
        t.learns(1, 9, true);
        due("so", t.vote(0, 9, 2), 1);
        due("all", t.vote(0, 9, 0), 4096);
        due("nobody knows", t.vote(0, 8, 2), -2);
        due("nobody", t.vote(1, 9, 0), 0);
        due("no one", t.vote(4, 0, 0), -1);
        due("no one", t.vote(-1, 0, 0), -1);
        due("no fact", t.vote(0, 16, 0), -1);
        due("no fact", t.vote(0, -1, 0), -1);
        due("no what", t.vote(0, 0, 3), -1);
        due("no what", t.vote(0, 0, -1), -1);
    }

    private static void seeds() {
        about("promise 27");
        ForkTown t = new ForkTown();
        due("most", t.seed(65535), true);
        due("x", t.count(5), 65535);
        due("too many", t.seed(65536), false);
        due("below", t.seed(-1), false);
        due("as it was", t.count(5), 65535);
        due("none", t.seed(0), true);
        t.comes(0, 0);
        t.hours(1);
        due("drawn", t.count(5), 13849);
        t.seed(65535);
        t.hours(1);
        due("drawn", t.count(5), (25173L * 65535 + 13849) % 65536);
    }

    private static void keeping() {
        about("promises 28, 29");
        ForkTown t = diamond("c9(1=1);w1(p<3)");
        due("none kept", t.undo(), false);
        t.keep();
        t.comes(0, 0);
        t.learns(0, 0, true);
        t.undo();
        due("nobody", t.half(0, 0), -1);
        t.comes(0, 0);
        due("knows nothing", t.half(0, 20), -2);
        t.hours(1);
        t.learns(1, 0, false);
        t.hours(3);
        due("knows what the other one knew", t.half(0, 20), 0);
        t.undo();
        t.comes(0, 0);
        due("kept", t.keep(), 1);
        t.learns(0, 1, true);
        t.seed(77);
        t.hours(2);
        t.road(9, 3, 9, 1);
        t.notice(4, 4, true);
        law(t, "c9(1=1);w1(p<3);e(1=1)");
        feed(t, 1);
        due("undone", t.undo(), true);
        due("hour", t.count(0), 0);
        due("been", t.count(1), 1);
        due("live", t.count(2), 1);
        due("weight", t.half(0, 4), 4096);
        due("place", t.half(0, 5), 0);
        due("facts", t.half(0, 21), -2);
        due("x", t.count(5), 1);
        due("remembered", t.was(0, 1), -3);
        due("roads stay", t.count(29), 3);
        due("notices stay", t.count(144), 104);
        due("the law stays", t.count(3), 3);
        due("the tape stays", t.count(4), 20);
        t.check(0);
        t.hours(4);
        due("kept", t.keep(), 1);
        due("merged", t.count(9), 1);
        law(t, "x10(1=1)");
        t.hours(40);
        due("died", t.count(8), 1);
        due("again", t.undo(), true);
        due("hour", t.count(0), 4);
        due("remembered as kept", t.was(1, 2), 2);
        due("remembered as kept", t.was(0, 0), 0);
        due("merged as kept", t.count(9), 1);
        due("died as kept", t.count(8), 0);
        due("and again", t.undo(), true);
        t.hours(1);
        due("x as kept", t.count(8), 1);
        due("comes", t.comes(0, 5), 2);
        due("undone", t.undo(), true);
        due("been", t.count(1), 2);
        due("nobody dies twice", t.half(0, 3), 1);
    }

    private static void checking() {
        about("promise 30");
        ForkTown t = three("");
        due("none", t.check(0), -1);
        feed(t, 0, 0, 4, 0, 0, 0, 8, 0, 0, 0, 4, 0, 0, 0, 0, 0);
        due("right", t.check(4), -1);
        due("empty", t.count(4), 0);
        feed(t, 0, 0, 4, 0, 0, 0, 8, 0, 0, 0, 4, 1, 0, 0, 0, 1);
        due("third", t.check(5), 2);
        due("empty", t.count(4), 0);
        feed(t, 1, 0, 4, 0);
        due("first", t.check(1), 0);
        feed(t, 1, 0, 4, 0);
        due("not so many", t.check(6), -2);
        due("no n", t.check(21), -2);
        due("no n", t.check(-1), -2);
        due("the tape stays", t.count(4), 20);
        due("none", t.check(0), -1);
        due("empty", t.count(4), 0);
        law(t, "x10(j=1)");
        t.hours(10);
        feed(t, 0, 0, 4, 0, 0, 0, 0, 0, 0, 0, 4, 0);
        due("of one that does not live 0", t.check(3), -1);
        feed(t, new int[80]);
        due("twenty", t.check(20), 0);
        feed(t, new int[100]);
        due("no n", t.check(21), -2);
        due("the tape stays", t.count(4), 100);
    }

    private static void counting() {
        about("promise 31");
        ForkTown t = diamond("c9(1=1);e(1=2)");
        t.comes(0, 0);
        t.hours(1);
        feed(t, 1);
        int[] want = {1, 2, 2, 2, 20, (25173 + 13849) % 65536, 4, 0, 0, 0};
        for (int what = 0; what < want.length; what++) {
            due("count " + what, t.count(what), want[what]);
        }
        due("from", t.count(22), 1);
        due("to", t.count(62), 3);
        due("long", t.count(102), 1);
        for (int what : new int[] {-1, 10, 19, 24, 51, 52, 59, 64, 92, 99, 104, 132, 139, 156, 200, Integer.MIN_VALUE, Integer.MAX_VALUE}) {
            due("count " + what, t.count(what), -1);
        }
        due("no notice", t.count(140), -2);
        t.learns(0, 0, true);
        t.learns(1, 0, false);
        t.hours(2);
        due("forgotten", t.count(7), 1);
        due("merged", t.count(9), 1);
        t.check(0);
        law(t, "x10(1=1)");
        t.hours(1);
        due("died", t.count(8), 1);
        due("live", t.count(2), 0);
        due("been", t.count(1), 2);
    }
}
