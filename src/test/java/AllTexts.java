/** All short texts, and all that go on from some longer ones, told as laws and as histories: the class and the model judge alike. */
public final class AllTexts {
    private static final String LAW_SIGNS = "ceh1()[]!&=-;a";
    private static final String MORE_LAW_SIGNS = "ch1()[]!|<*;";
    private static final String[] LAWS_BEGUN = {"c1(", "c1(!(", "c1(((((", "c1(!!!!", "c[[[[[", "c1((!([", "c12345", "e(12345", "c1(1=1);",
        "e(!1=1&", "e((1=1)|", "e(!(1=[1]+",
        "e(1=1);e(1=1);e(1=1);e(1=1);e(1=1);e(1=1);e(1=1);e(1=1);e(1=1);e(1=1);e(1=1);e(1=1);e(1=1);e(1=1);e(1=1);e(1=1)"};
    private static final String HISTORY_SIGNS = "0135@,a9";
    private static long asked = 0;
    private static int wrong = 0;
    private final ForkTown town = new ForkTown();
    private final ModelTest.Model model = new ModelTest.Model();

    public static void main(String[] args) {
        AllTexts laws = new AllTexts();
        laws.goOn("", 10, LAW_SIGNS);
        for (String begun : LAWS_BEGUN) {
            laws.goOn(begun, 8, MORE_LAW_SIGNS);
        }
        AllTexts histories = new AllTexts();
        histories.passHours();
        histories.goOn("", 6, HISTORY_SIGNS);
        histories.goOn("3@54,", 5, HISTORY_SIGNS);
        System.out.println(asked + " texts told, " + wrong + " answers are not as due");
        if (wrong != 0) {
            System.exit(1);
        }
    }

    /** A one goes through 55 hours, so that some are remembered and some are not. */
    private void passHours() {
        int[][] roads = {{0, 1, 1}, {0, 2, 2}, {1, 3, 2}, {2, 3, 1}, {3, 0, 3}};
        for (int r = 0; r < roads.length; r++) {
            town.road(r, roads[r][0], roads[r][1], roads[r][2]);
            model.road(r, roads[r][0], roads[r][1], roads[r][2]);
        }
        tell("c9(1=1);d9(1=1)");
        town.comes(0, 0);
        model.comes(0, 0);
        town.hours(48);
        model.hours(48);
        town.hours(7);
        model.hours(7);
    }

    /** Each sign behind a text; a text that only its end makes faulty, or that has no fault, goes on. */
    private void goOn(String begun, int more, String signs) {
        for (char sign : signs.toCharArray()) {
            String text = begun + sign;
            int due = tell(text);
            if (more > 1 && (due >= 0 || due == -1000 - text.length())) {
                goOn(text, more - 1, signs);
            }
        }
    }

    /** Tells a text, and answers what is due. */
    private int tell(String text) {
        town.check(0);
        model.check(0);
        for (int i = 0; i < text.length(); i += 20) {
            int[] w = new int[5];
            for (int k = 0; k < 20; k++) {
                w[k / 4] = w[k / 4] << 8 | (i + k < text.length() ? text.charAt(i + k) : 0);
            }
            town.feed(w[0], w[1], w[2], w[3], w[4]);
            model.feed(w);
        }
        boolean isHistory = model.now.hour > 0;
        int n = text.length();
        long got = isHistory ? town.history(1, n) : town.law(n);
        int due = isHistory ? model.history(1, n) : model.law(n);
        asked++;
        if (got != due && wrong++ < 5) {
            System.out.println((isHistory ? "history " : "law ") + text + " answered " + got + ", due is " + due);
        }
        return due;
    }
}
