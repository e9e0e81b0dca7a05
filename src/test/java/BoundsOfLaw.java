/** What 'Terms' says of THE LAW, sentence by sentence: what may stand in it, its FAULTS, and what is asked of it at its bounds. */
public final class BoundsOfLaw extends TownTest {
    /** A law with all that can stand in one. */
    private static final String WHOLE = "c10+h*[3-i]/4%5(!p<2&(34>m|56=6)|77777=[o]);e(f=y|!!1=2);b[[1]](1=1);x0(1=1&2=2);w0(k=0);d9(l<q)";

    private BoundsOfLaw() {
    }

    public static void main(String[] args) {
        bytes();
        noneAtFirst();
        clauses();
        shapeOfClauses();
        firstThatHolds();
        boundsOfC();
        boundsOfD();
        boundsOfB();
        boundsOfW();
        boundsOfX();
        anyE();
        partsAndPieces();
        comparisons();
        fromTheLeft();
        digits();
        letters();
        notTold();
        wraps();
        divided();
        asMuchAsMatters();
        faultOne();
        faultTwo();
        faultFour();
        faultFive();
        firstFault();
        end();
    }

    /** How gladly half 1, of ONE 2, takes road 4 (from 5 to 6, 7 long) at THE HOUR 9. */
    private static int glad(String text) {
        ForkTown t = town("", 4, 5, 6, 7);
        t.comes(1, 3);
        t.comes(2, 5);
        t.hours(9);
        t.learns(1, 1, true);
        t.learns(1, 2, false);
        t.owes(1, 33);
        return law(t, text) > 0 ? t.gladly(1, 4) : -99;
    }

    private static boolean holds(String c) {
        return glad("c1(" + c + ")") == 1;
    }

    private static void bytes() {
        about("law: at most 240 bytes, no blanks");
        // the last byte but one is the last digit of a number that counts
        String text = "c5" + "+1-1".repeat(57) + "+" + "0(1=" + "01";
        due("bytes", (text + ")").length(), 238);
        due("238 bytes", glad(text + ")"), 5);
        due("240 bytes", glad("c5" + "+1-1".repeat(57) + "+0(1=0001)"), 5);
        due("240 bytes, otherwise", glad("c5" + "+1-1".repeat(57) + "+0(1=0002)"), 0);
        ForkTown t = new ForkTown();
        feedText(t, "c5" + "+1-1".repeat(57) + "+0(1=00001)");
        due("241 bytes", t.law(241), -1);
        due("the first 240 of them", t.law(240), -1240);
        due("240 bytes of pieces", glad("c7(1=1" + "&1=1".repeat(58) + ")"), 7);
        due("240 bytes of parts", glad("c7(1=2" + "|1=2".repeat(57) + "|1=1)"), 7);
        due("240 bytes of clauses", law(new ForkTown(), "e(h=0)" + ";e(h=0)".repeat(15)), 16);
        String law = "c1(1=1);c1(1=1)";
        for (char blank : new char[] {' ', '\t', '\n', '\r', 0, 160}) {
            for (int at = 0; at <= law.length(); at++) {
                due("a blank at " + at, law(new ForkTown(), law.substring(0, at) + blank + law.substring(at)), -1000 - at);
            }
        }
        due("only a blank", law(new ForkTown(), " "), -1000);
    }

    private static void noneAtFirst() {
        about("law: none at first");
        ForkTown t = with("", 0, 0, 1, 1, 1, 0, 2, 1);
        due("clauses", t.count(3), 0);
        due("c", t.gladly(0, 0), 0);
        due("stays", t.hours(1), 1);
        due("at its place", t.half(0, 5), 0);
        law(t, "c1(1=1)");
        due("then one", t.count(3), 1);
        due("c", t.gladly(0, 0), 1);
        due("goes", t.hours(1), 2);
    }

    private static void clauses() {
        about("law: CLAUSES (16 at most) with a ; between two");
        for (int many = 1; many <= 16; many++) {
            StringBuilder text = new StringBuilder("c1(1=2)");
            for (int i = 1; i < many; i++) {
                text.append(i == many - 1 ? ";c9(1=1)" : ";d1(1=1)");
            }
            ForkTown t = with("", 0, 0, 1, 1);
            due(many + " clauses", law(t, text.toString()), many);
            due("told", t.count(3), many);
            due("the last one is asked", t.gladly(0, 0), many == 1 ? 0 : 9);
        }
        for (char between : new char[] {':', ',', '|', '&', '<', (char) 58, (char) 60, (char) 187}) {
            due("between two: " + (int) between, law(new ForkTown(), "c1(1=1)" + between + "c1(1=1)"), -1007);
        }
        due("59", law(new ForkTown(), "c1(1=1)" + (char) 59 + "c1(1=1)"), 2);
        due("none ahead", law(new ForkTown(), ";c1(1=1)"), -1000);
        due("none behind", law(new ForkTown(), "c1(1=1);"), -1008);
        due("not two", law(new ForkTown(), "c1(1=1);;c1(1=1)"), -1008);
        due("nothing between", law(new ForkTown(), "c1(1=1)c1(1=1)"), -1007);
    }

    private static void shapeOfClauses() {
        about("law: a letter, E, and (C), of e only (C)");
        for (char c = 0; c < 256; c++) {
            boolean letter = "cdbwx".indexOf(c) >= 0;
            due("letter " + (int) c, law(new ForkTown(), c + "1(1=1)"), letter ? 1 : c == 'e' ? -1001 : -1000);
            due("only a C behind " + (int) c, law(new ForkTown(), c + "(1=1)"), c == 'e' ? 1 : letter ? -1001 : -1000);
        }
        due("no C", law(new ForkTown(), "c1"), -1002);
        due("an empty C", law(new ForkTown(), "c1()"), -1003);
        due("two Cs", law(new ForkTown(), "c1(1=1)(1=1)"), -1007);
        due("e without C", law(new ForkTown(), "e"), -1001);
        due("e with an empty C", law(new ForkTown(), "e()"), -1002);
    }

    private static void firstThatHolds() {
        about("law: of the first one of a letter whose C holds the E; none: 0");
        due("the first", glad("c1(1=1);c2(1=1)"), 1);
        due("the second", glad("c1(1=2);c2(1=1)"), 2);
        due("the third", glad("c1(1=2);d9(1=1);c2(1=2);c3(1=1);c4(1=1)"), 3);
        due("the 16th", glad("c1(1=2)" + ";c2(1=2)".repeat(14) + ";c3(1=1)"), 3);
        due("none", glad("c1(1=2)" + ";c2(1=2)".repeat(15)), 0);
        due("none of the letter", glad("d1(1=1);b1(1=1);w1(1=1);x1(1=1);e(1=1)"), 0);
        due("an E of 0 is asked no further", glad("c0(1=1);c5(1=1)"), 0);
        due("an E below 0 is asked no further", glad("c0-1(1=1);c5(1=1)"), 0);
        due("a REFUSED E is asked no further", glad("c1/0(1=1);c5(1=1)"), 0);
    }

    private static void boundsOfC() {
        about("law: c 0 to 99 (beyond its bounds the bound)");
        int[] told = {0, 1, 98, 99, 100, 101, 99999};
        int[] due = {0, 1, 98, 99, 99, 99, 99};
        for (int i = 0; i < told.length; i++) {
            due("c" + told[i], glad("c" + told[i] + "(1=1)"), due[i]);
            due("c0-" + told[i], glad("c0-" + told[i] + "(1=1)"), 0);
        }
        due("the greatest", glad("c32768*65535+32767(1=1)"), 99);
        due("one more wraps around", glad("c32768*65535+32768(1=1)"), 0);
        due("the least", glad("c0-32768*65535-32768(1=1)"), 0);
        due("one less wraps around", glad("c0-32768*65535-32769(1=1)"), 99);
    }

    /** How many one is behind an hour, if another road is less by so much. */
    private static int behind(String d, int less) {
        ForkTown t = with("c99-r*" + less + "(1=1);" + d, 0, 0, 1, 9, 1, 0, 2, 9);
        return t.hours(1);
    }

    private static void boundsOfD() {
        about("law: d 0 to 99 (beyond its bounds the bound; none: 0)");
        due("0: of like ones", behind("d0(1=1)", 0), 2);
        due("0: less by 1", behind("d0(1=1)", 1), 1);
        due("none: of like ones", behind("d9(1=2)", 0), 2);
        due("none: less by 1", behind("d9(1=2)", 1), 1);
        due("below 0: of like ones", behind("d0-1(1=1)", 0), 2);
        due("far below 0: of like ones", behind("d0-99999(1=1)", 0), 2);
        due("REFUSED: of like ones", behind("d9/0(1=1)", 0), 2);
        due("REFUSED: less by 1", behind("d9/0(1=1)", 1), 1);
        for (int d = 1; d < 98; d += 16) {
            due("less by as much", behind("d" + d + "(1=1)", d), 2);
            due("less by one more", behind("d" + d + "(1=1)", d + 1), 1);
        }
        due("97: less by 98", behind("d97(1=1)", 98), 1);
        due("98: less by 98", behind("d98(1=1)", 98), 2);
        due("99: less by 98", behind("d99(1=1)", 98), 2);
        due("above 99: less by 98", behind("d99999(1=1)", 98), 2);
        due("99: the other one is 0", behind("d99(1=1)", 99), 1);
    }

    /** What one who comes to a place owes, having owed so much. */
    private static int owed(String b, int before) {
        ForkTown t = with("c1(1=1);" + b, 0, 0, 1, 1);
        t.hours(1);
        t.owes(0, before);
        t.hours(1);
        return t.half(0, 9);
    }

    private static void boundsOfB() {
        about("law: b 0 to 999 (beyond its bounds the bound)");
        int[] told = {0, 1, 998, 999, 1000, 1001, 99999};
        int[] due = {0, 1, 998, 999, 999, 999, 999};
        for (int i = 0; i < told.length; i++) {
            due("b" + told[i], owed("b" + told[i] + "(1=1)", 7), 7 + due[i]);
            due("b0-" + told[i], owed("b0-" + told[i] + "(1=1)", 7), 7);
        }
        due("none", owed("b5(1=2)", 7), 7);
        due("REFUSED", owed("b5%0(1=1)", 7), 7);
        due("just 99999", owed("b999(1=1)", 99000), 99999);
        due("99999 at most", owed("b999(1=1)", 99001), 99999);
        due("one more", owed("b1(1=1)", 99998), 99999);
        due("99999 at most", owed("b1(1=1)", 99999), 99999);
        due("the most of both", owed("b999(1=1)", 99999), 99999);
    }

    private static int waits(String w) {
        ForkTown t = with("c1(1=1);" + w, 0, 0, 1, 1);
        t.hours(2);
        return t.half(0, 8);
    }

    private static void boundsOfW() {
        about("law: w 0 to 9 (beyond its bounds the bound)");
        int[] told = {0, 1, 8, 9, 10, 11, 99999};
        int[] due = {0, 1, 8, 9, 9, 9, 9};
        for (int i = 0; i < told.length; i++) {
            due("w" + told[i], waits("w" + told[i] + "(1=1)"), due[i]);
            due("w0-" + told[i], waits("w0-" + told[i] + "(1=1)"), 0);
        }
        due("none", waits("w5(1=2)"), 0);
        due("REFUSED", waits("w5/0(1=1)"), 0);
    }

    /** Whether one dies in an hour whose draw is told. */
    private static boolean dies(String x, int draw) {
        ForkTown t = with(x);
        int seed = 0;
        while ((25173L * seed + 13849) % 65536 % 10 != draw) {
            seed++;
        }
        t.seed(seed);
        return t.hours(1) == 0;
    }

    private static void boundsOfX() {
        about("law: x tenths that it dies (0 to 10; beyond its bounds the bound)");
        for (int draw = 0; draw < 10; draw++) {
            for (int x = 0; x <= 12; x++) {
                due("x" + x + ", draw " + draw, dies("x" + x + "(1=1)", draw), draw < x);
            }
            due("below 0", dies("x0-1(1=1)", draw), false);
            due("far below 0", dies("x0-99999(1=1)", draw), false);
            due("far above", dies("x99999(1=1)", draw), true);
            due("none", dies("x10(1=2)", draw), false);
            due("REFUSED", dies("x10/0(1=1)", draw), false);
        }
    }

    /** What is known of fact 3 behind a merging, the elder one knowing it so and the other one not so. */
    private static int merged(String e) {
        ForkTown t = diamond("c9(1=1)" + e);
        t.comes(0, 0);
        t.hours(1);
        t.learns(0, 3, true);
        t.learns(1, 3, false);
        t.hours(2);
        return t.half(0, 23);
    }

    private static void anyE() {
        about("law: e: the elder one is believed (any e will do)");
        due("none", merged(""), -2);
        due("one that does not hold", merged(";e(1=2)"), -2);
        due("one that holds", merged(";e(1=1)"), 1);
        due("the first", merged(";e(1=1);e(1=2)"), 1);
        due("the second", merged(";e(1=2);e(1=1)"), 1);
        due("the 15th", merged(";e(1=2)".repeat(14) + ";e(1=1)"), 1);
        due("not even the 15th", merged(";e(1=2)".repeat(15)), -2);
        due("one that is REFUSED", merged(";e(1/0=0)"), -2);
        due("one behind it", merged(";e(1/0=0);e(1=1)"), 1);
    }

    private static void partsAndPieces() {
        about("law: PARTS with a |, one of which must hold; PIECES with an &, all of which must; !PIECE; (C)");
        for (int bits = 0; bits < 8; bits++) {
            boolean a = (bits & 1) != 0;
            boolean b = (bits & 2) != 0;
            boolean c = (bits & 4) != 0;
            String[] p = {a ? "1=1" : "1=2", b ? "2=2" : "2=1", c ? "3>2" : "3<2"};
            due("|", holds(p[0] + "|" + p[1] + "|" + p[2]), a || b || c);
            due("&", holds(p[0] + "&" + p[1] + "&" + p[2]), a && b && c);
            due("| &", holds(p[0] + "|" + p[1] + "&" + p[2]), a || b && c);
            due("& |", holds(p[0] + "&" + p[1] + "|" + p[2]), a && b || c);
            due("( | ) &", holds("(" + p[0] + "|" + p[1] + ")&" + p[2]), (a || b) && c);
            due("& ( | )", holds(p[0] + "&(" + p[1] + "|" + p[2] + ")"), a && (b || c));
            due("! of a piece alone, &", holds("!" + p[0] + "&" + p[1] + "&!" + p[2]), !a && b && !c);
            due("! of a piece alone, |", holds("!" + p[0] + "|" + p[1] + "|!!" + p[2]), !a || b || c);
            due("!( )", holds("!(" + p[0] + "|" + p[1] + "&" + p[2] + ")"), !(a || b && c));
            due("( ) & ( )", holds("(" + p[0] + "&" + p[1] + ")|(" + p[1] + "&!" + p[2] + ")"), a && b || b && !c);
            due("!!!", holds("!!!" + p[0]), !a);
        }
    }

    private static void comparisons() {
        about("law: E, one of < > =, and E");
        String[] worth = {"0-32768*65535-32768", "0-1", "0", "1", "99999", "32768*65535+32767"};
        for (int a = 0; a < worth.length; a++) {
            for (int b = 0; b < worth.length; b++) {
                due(worth[a] + " < " + worth[b], holds(worth[a] + "<" + worth[b]), a < b);
                due(worth[a] + " > " + worth[b], holds(worth[a] + ">" + worth[b]), a > b);
                due(worth[a] + " = " + worth[b], holds(worth[a] + "=" + worth[b]), a == b);
            }
        }
        for (String sign : new String[] {"==", "<=", ">=", "<>", "=<", "!=", "~"}) {
            due("not " + sign, law(new ForkTown(), "c1(1" + sign + "1)"), "<>=".indexOf(sign.charAt(0)) >= 0 ? -1005 : -1004);
        }
    }

    private static void fromTheLeft() {
        about("law: TERMS with + or -, FACTORS with one of * / %, from the left on; [E]");
        String[] texts = {"20-5-3", "20-5+3", "40/4/5", "40/4*5", "7*5%4", "7%5*4", "2+3*4", "2*3+4", "20-12/4", "20-[12-4]", "[20-12]/4",
            "[[7]]", "[1+2]*[3+4]", "9+[0-7]/4", "9+[0-7]%4", "9+7/[0-4]", "9+7%[0-4]", "5-0", "0*5+1", "17%5%2", "3-4+5"};
        int[] due = {12, 18, 2, 50, 3, 8, 14, 10, 17, 12, 2, 7, 21, 8, 6, 8, 12, 5, 1, 0, 4};
        for (int i = 0; i < texts.length; i++) {
            due(texts[i], glad("c" + texts[i] + "(1=1)"), due[i]);
            due(texts[i] + " in a C", holds(texts[i] + "=" + due[i]), true);
            due("behind the sign", holds(due[i] + "=" + texts[i]), true);
        }
        due("no sign ahead", law(new ForkTown(), "c-5(1=1)"), -1001);
        due("no sign ahead in brackets", law(new ForkTown(), "c1+[-5](1=1)"), -1004);
        due("no ( for [", law(new ForkTown(), "c1(1=(2))"), -1005);
        due("no [ for (", law(new ForkTown(), "c1([1=1])"), -1005);
    }

    private static void digits() {
        about("law: a number of one to five digits");
        due("one", glad("c7(1=1)"), 7);
        due("two", glad("c07(1=1)"), 7);
        due("five", glad("c00007(1=1)"), 7);
        due("five", holds("12345=12344+1"), true);
        due("the greatest", holds("99999=9*11111"), true);
        due("the greatest and one more", holds("99999+1=4*25000"), true);
        due("none", law(new ForkTown(), "c(1=1)"), -1001);
        due("none behind +", law(new ForkTown(), "c1+(1=1)"), -1003);
    }

    private static void letters() {
        about("law: a letter of h i j z p n m o k r q l f y");
        String letters = "hijzpnmokrqlfy";
        int[] due = {9, 2, 1, 4096, 5, 1, 2, 33, 9, 4, 6, 7, 0, 0};
        for (int i = 0; i < letters.length(); i++) {
            due(letters.charAt(i) + "", holds(letters.charAt(i) + "=" + due[i]), true);
            due("two of it", holds("2*" + letters.charAt(i) + "=" + 2 * due[i]), true);
        }
        ForkTown t = with("c9(p=0)", 0, 0, 1, 2, 1, 0, 2, 2, 2, 2, 3, 1);
        t.hours(4);
        law(t, "ck(1=1)");
        due("k of one born at 0", t.gladly(1, 2), 4);
        ForkTown late = with("");
        late.hours(40);
        late.comes(1, 0);
        late.road(0, 0, 1, 1);
        late.hours(7);
        law(late, "ck(i=1);ch(i=0)");
        due("k of one born at 40", late.gladly(1, 0), 7);
        due("h", late.gladly(0, 0), 47);
        for (char c = 0; c < 256; c++) {
            if (letters.indexOf(c) < 0 && (c < '0' || c > '9') && c != '[') {
                due("no letter: " + (int) c, law(new ForkTown(), "c" + c + "(1=1)"), -1001);
                due("no letter in a C: " + (int) c, law(new ForkTown(), "c1(1=" + c + ")"), -1005);
            }
        }
    }

    private static void notTold() {
        about("law: in c r, q, l, in e f, y (where they are not told they are 0)");
        for (char letter : "rqlfy".toCharArray()) {
            boolean inC = "rql".indexOf(letter) >= 0;
            due("c: " + letter, holds(letter + "=0"), !inC);
            ForkTown t = with("c9(r=4);c8(1=1);d1(" + letter + ">0);b1+" + letter + "(1=1);w1+" + letter + "(1=1)", 3, 0, 5, 1, 4, 0, 6, 1);
            t.hours(2);
            due("d: " + letter, t.count(1), 1);
            due("b: " + letter, t.half(0, 9), 1);
            due("w: " + letter, t.half(0, 8), 1);
            due("x: " + letter, dies("x10*" + letter + "(1=1)", 0), false);
            due("e: " + letter, merged(";e(" + letter + "=0)"), inC ? 1 : -2);
        }
        due("f", merged(";e(f=3)"), 1);
        due("y", merged(";e(y=1)"), 1);
        ForkTown t = diamond("c9(1=1);e(f=0|f=15)");
        t.comes(0, 0);
        t.hours(1);
        for (int f = 0; f < 16; f++) {
            t.learns(0, f, f % 2 == 0);
            t.learns(1, f, f % 2 != 0);
        }
        t.hours(2);
        for (int f = 0; f < 16; f++) {
            due("fact " + f, t.half(0, 20 + f), f == 0 ? 1 : f == 15 ? 0 : -2);
        }
        due("forgotten", t.count(7), 14);
    }

    private static void wraps() {
        about("law: all is reckoned with 32 bits, as the machine does");
        String greatest = "[32768*65535+32767]";
        String least = "[0-32768*65535-32768]";
        due("+", holds(greatest + "+1=" + least), true);
        due("-", holds(least + "-1=" + greatest), true);
        due("*", holds("65536*32768=" + least), true);
        due("*", holds("65536*65536=0"), true);
        due("*", holds("99999*99999=14098*[99999+1]+65409"), true);
        due("* twice", holds(greatest + "*2=0-2"), true);
        due("/", holds(least + "/[0-1]=" + least), true);
        due("%", holds(least + "%[0-1]=0"), true);
        due("/", holds(greatest + "/[0-1]=0-" + greatest), true);
        due("the rest has the sign of what is divided", holds("[0-7]%3=0-1&7%[0-3]=1&[0-7]%[0-3]=0-1"), true);
        due("the part is cut towards 0", holds("[0-7]/2=0-3&7/[0-2]=0-3&[0-7]/[0-2]=3"), true);
        due("in an E", glad("c32768*65535+32767+5+32768*65535+32766+32767-32767(1=1)"), 2);
    }

    private static void divided() {
        about("law: what is divided by 0 is REFUSED: then a C does not hold, an E is 0");
        for (String e : new String[] {"5/0", "5%0", "0/0", "0%0", "5+1/0", "1/0+5", "5+[1%0]", "[5/0]*0", "5/[3-3]", "5%f", "5/y", "0*[1/0]+5", "5/0/1"}) {
            due("E " + e, glad("c" + e + "(1=1);c3(1=1)"), 0);
            for (String sign : new String[] {"=", "<", ">"}) {
                due("C " + e + sign, glad("c5(" + e + sign + "0);c3(1=1)"), 3);
                due("C " + sign + e, glad("c5(0" + sign + e + ");c3(1=1)"), 3);
                due("C !" + e + sign, glad("c5(!" + e + sign + "0);c3(1=1)"), 3);
            }
        }
        due("divided by 1", glad("c5/1(1=1)"), 5);
        due("rest by 1", glad("c5+5%1(1=1)"), 5);
        due("divided by -1", glad("c0-5/[0-1](1=1)"), 5);
        due("0 divided", glad("c5+0/7(1=1)"), 5);
        due("the C is REFUSED, not the E", glad("c5(1/0=1/0);c3(1=1)"), 3);
    }

    private static void asMuchAsMatters() {
        about("law: of a C as much is asked, from the left, as matters");
        due("behind a PART that holds", holds("1=1|1/0=0"), true);
        due("behind a PART that does not", holds("1=2|1/0=0"), false);
        due("behind a PIECE that does not hold", holds("1=2&1/0=0|1=1"), true);
        due("behind a PIECE that holds", holds("1=1&1/0=0|1=1"), false);
        due("ahead of a PART that holds", holds("1/0=0|1=1"), false);
        due("in brackets, not asked", holds("(1=1|1/0=0)&2=2"), true);
        due("in brackets, not asked", holds("1=2&(1=1&1/0=0)|2=2"), true);
        due("in brackets, asked", holds("(1=2|1/0=0)|2=2"), false);
        due("behind a ! that does not hold", holds("!1=1&1/0=0|2=2"), true);
        due("behind a ! that holds", holds("!1=2|1/0=0"), true);
        due("the left of a PIECE is asked first", holds("1/0=0&1=2|2=2"), false);
        due("the next clause is not asked", glad("c5(1=1);c1/0(1/0=0)"), 5);
        due("clauses of other letters are not asked", glad("d1/0(1/0=0);c5(1=1)"), 5);
    }

    private static void faultOne() {
        about("law, FAULT 1: what can't stand there (the end, too)");
        ForkTown t = new ForkTown();
        int clauses = 0;
        for (int n = 1; n <= WHOLE.length(); n++) {
            boolean whole = n == WHOLE.length() || WHOLE.charAt(n) == ';';
            clauses += whole ? 1 : 0;
            due("the end at " + n, law(t, WHOLE.substring(0, n)), whole ? clauses : -1000 - n);
        }
        for (int at = 0; at <= WHOLE.length(); at++) {
            for (char never : new char[] {'a', 'g', 's', 'C', ' ', '{', '~', 0, 127, 128, 255, (char) ('c' + 128)}) {
                due("at " + at + " " + (int) never, law(t, WHOLE.substring(0, at) + never + WHOLE.substring(at)), -1000 - at);
            }
        }
        due("a ) too much", law(t, WHOLE + ")"), -1000 - WHOLE.length());
        due("a ] too much", law(t, "c1](1=1)"), -1002);
        due("a ] for a )", law(t, "c1(1=1]"), -1006);
        due("a ) for a ]", law(t, "c[1)(1=1)"), -1003);
        due("E for C", law(t, "c1(1)"), -1004);
        due("a ! that is not of a PIECE", law(t, "c!1(1=1)"), -1001);
        due("a ! ahead of an E behind the sign", law(t, "c1(1=!1)"), -1005);
    }

    private static void faultTwo() {
        about("law, FAULT 2: a sixth digit, at it");
        String[] ahead = {"c", "d", "b", "w", "x", "c1+", "c[", "c1(", "c1(1=", "c1(1=1&", "c1(!", "c1((", "e(", "e(1<", "c1(1=1);c", "c1(1=[2*"};
        for (String text : ahead) {
            due("behind " + text, law(new ForkTown(), text + "123456(1=1)"), -2005 - text.length());
            due("zeros, too, behind " + text, law(new ForkTown(), text + "0000000"), -2005 - text.length());
            due("at the end, behind " + text, law(new ForkTown(), text + "999999"), -2005 - text.length());
            due("five behind " + text, law(new ForkTown(), text + "12345"), -1005 - text.length());
        }
        due("five and five", law(new ForkTown(), "c12345+12345(12345=12345)"), 1);
    }

    private static void faultFour() {
        about("law, FAULT 4: a 17th CLAUSE, at its letter (if that can stand there)");
        String sixteen = "e(h=0)" + ";e(h=0)".repeat(15);
        due("16", law(new ForkTown(), sixteen), 16);
        for (char c = 0; c < 256; c++) {
            due("a 17th by " + (int) c, law(new ForkTown(), sixteen + ";" + c), "cdbwxe".indexOf(c) >= 0 ? -4112 : -1112);
        }
        due("the end", law(new ForkTown(), sixteen + ";"), -1112);
        due("no ; ahead", law(new ForkTown(), sixteen + "e"), -1111);
        due("whole", law(new ForkTown(), sixteen + ";e(h=0)"), -4112);
        due("a fault in the 16th comes first", law(new ForkTown(), sixteen.substring(0, 110) + ";e(h=0)"), -1110);
        due("a 17th comes ahead of its faults", law(new ForkTown(), sixteen + ";c(((((((("), -4112);
    }

    private static void faultFive() {
        about("law, FAULT 5: a seventh of ( [ ! that are open in one another, at it");
        for (int nots = 0; nots <= 6; nots++) {
            for (int rounds = 0; nots + rounds <= 6; rounds++) {
                int squares = 6 - nots - rounds;
                String open = "!".repeat(nots) + "(".repeat(rounds) + "[".repeat(squares);
                String close = "1" + "]".repeat(squares) + "=1" + ")".repeat(rounds);
                due("seven by " + open, law(new ForkTown(), "c1(" + open + close + ")"), -5008);
                if (nots + rounds < 6) {
                    String less = open.substring(0, 5);
                    String end = "1" + "]".repeat(squares - 1) + "=1" + ")".repeat(rounds);
                    due("six by " + less, law(new ForkTown(), "c1(" + less + end + ")"), 1);
                }
            }
        }
        due("six (", law(new ForkTown(), "c1((((((1=1))))))"), 1);
        due("six !", law(new ForkTown(), "c1(!!!!!1=1)"), 1);
        due("of e, six", law(new ForkTown(), "e((((((1=1))))))"), 1);
        due("of e, seven", law(new ForkTown(), "e(((((((1=1)))))))"), -5007);
        about("law, FAULT 5: the E of a CLAUSE stands ahead of its (");
        due("six [", law(new ForkTown(), "c[[[[[[1]]]]]](1=1)"), 1);
        due("seven [", law(new ForkTown(), "c[[[[[[[1]]]]]]](1=1)"), -5007);
        due("six [, then six in the C", law(new ForkTown(), "c[[[[[[1]]]]]](((((([1=1))))))"), -5020);
        due("six [, then five in the C", law(new ForkTown(), "c[[[[[[1]]]]]]((((((1=1))))))"), 1);
        due("six [ twice", law(new ForkTown(), "c[[[[[[1]]]]]]+[[[[[[1]]]]]](1=1)"), 1);
        about("law, FAULT 5: a ! is open till its PIECE ends");
        due("on both sides of the sign", law(new ForkTown(), "c1(!!!![1]=[1])"), 1);
        due("on the right side", law(new ForkTown(), "c1(!!!!!1=[1])"), -5010);
        due("not behind its PIECE", law(new ForkTown(), "c1(!!!!!1=1&!!!!!1=1)"), 1);
        due("not behind its PIECE", law(new ForkTown(), "c1(!!!!!1=1|((((([1]=1))))))"), -5017);
        due("not behind its PIECE", law(new ForkTown(), "c1(!!!!!1=1|((((([1]=1))))))".replace("[1]", "1")), 1);
        due("till its ( ) ends", law(new ForkTown(), "c1(!(!!!1=1&[1]=1&[[1]]=1))"), 1);
        due("till its ( ) ends", law(new ForkTown(), "c1(!(!!!1=1&[[[[1]]]]=1))"), -5015);
        due("behind its ( )", law(new ForkTown(), "c1(!(1=1)&[[[[[1]]]]]=1)"), 1);
        due("behind its ( )", law(new ForkTown(), "c1(!(1=1)&[[[[[[1]]]]]]=1)"), -5015);
        due("a seventh that can't stand there", law(new ForkTown(), "c[[[[[[(1]]]]]](1=1)"), -1007);
        due("a seventh that can't stand there", law(new ForkTown(), "c1(!!!!!1=(1))"), -1010);
    }

    private static void firstFault() {
        about("law: FAULTS, the first from the left");
        due("1 ahead of 2", law(new ForkTown(), "c1(=123456"), -1003);
        due("2 ahead of 1", law(new ForkTown(), "c123456)"), -2006);
        due("5 ahead of 2", law(new ForkTown(), "c[[[[[[[123456"), -5007);
        due("2 ahead of 5", law(new ForkTown(), "c[123456[[[[[["), -2007);
        due("1 ahead of 5", law(new ForkTown(), "c1()((((((("), -1003);
        due("of two of a kind the first", law(new ForkTown(), "c1(1=1)(;;"), -1007);
    }
}
