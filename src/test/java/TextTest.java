/** Promises 27 to 31. */
public final class TextTest {
    private static final int BEYOND = -1000000001;
    private static final int FULL = -1000000002;
    private static final int NONE = -1000000004;
    private static int wrong = 0;

    private static void due(String call, long got, long want) {
        if (got != want) {
            wrong++;
            System.out.println(call + " answered " + got + ", due is " + want);
        }
    }

    private static int tell(NextButOne x, String text) {
        for (int i = 0; i < text.length(); i++) {
            x.feed(text.charAt(i), 1);
        }
        return x.text();
    }

    private static NextButOne people() {
        NextButOne x = new NextButOne();
        x.person(0, 50, 1);
        x.person(0, 37, 2);
        x.person(0, 41, 1);
        x.likes(0, 1, 7);
        x.likes(0, 2, -3);
        x.likes(2, 1, 5);
        x.worth(2, 1, 13);
        x.worth(1, 2, -4);
        return x;
    }

    private static void feed() {
        NextButOne x = new NextButOne();
        due("27: n 0", x.feed(1, 0), BEYOND);
        due("27: n 5", x.feed(1, 5), BEYOND);
        due("27: n -1", x.feed(1, -1), BEYOND);
        due("27: four", x.feed(0x28313233, 4), 4);
        due("27: the lowest alone", x.feed(0x7f7f7f29, 1), 5);
        due("27: it is (123)", x.text(), 1);
        for (int i = 1; i <= 19; i++) {
            x.feed(-1, 4);
        }
        due("27: 78", x.feed(0, 2), 78);
        due("27: FULL", x.feed(0, 3), FULL);
        due("27: FULL by 4", x.feed(0, 4), FULL);
        due("27: BEYOND ahead of FULL", x.feed(0, 5), BEYOND);
        due("27: 80", x.feed(0, 2), 80);
        due("27: FULL by 1", x.feed(0, 1), FULL);
        due("27: still 80", x.count(4), 80);
        due("28: 80", x.wipe(), 80);
        due("28: 0", x.wipe(), 0);
        due("28: empty", x.count(4), 0);
        due("27: again", x.feed('l', 1), 1);
        due("28: 1", x.wipe(), 1);
    }

    private static void order() {
        NextButOne x = people();
        x.feed(('7' << 16) | ('-' << 8) | '2', 3);
        due("27: the highest first", x.text(), 1);
        due("27: 7-2", x.gives(0, 1), 5);
    }

    private static void faults() {
        Object[][] texts = {{"", -1}, {"x", -1}, {"l ", -2}, {"12345", -5}, {"1234", 1}, {"l+", -3}, {"l+)", -3},
            {"(l", -3}, {"(l))", -4}, {")", -1}, {"l<a<s", -4}, {"(l<a)<s", 1}, {"l<a&s=w|r>n", 1}, {"la", -2},
            {"!!!!!l", 1}, {"!!!!!!l", -6}, {"-----l", 1}, {"------l", -6}, {"(((((l)))))", 1}, {"((((((l))))))", -6},
            {"!-(!(l))", 1}, {"!-(!(-l))", -6}, {"l--l", 1}, {"l---l", 1}, {"l+-!l", 1},
            {"l**a", -3}, {"|l", -1}, {"l||a", -3}, {"l&", -3}, {"l=", -3}, {"!", -2}, {"()", -2}, {"L", -1},
            {"1l", -2}, {"l1", -2}, {"1 2", -2}, {"00009", -5}, {"(1)2", -4}, {"l=a=s", -4}, {"!l=!a", 1}};
        for (Object[] t : texts) {
            NextButOne x = new NextButOne();
            due("29: " + t[0], tell(x, (String) t[0]), (Integer) t[1]);
            due("29: the tape is empty, " + t[0], x.count(4), 0);
            due("29: no finding, " + t[0], x.status(-1), 0);
        }
        NextButOne x = new NextButOne();
        StringBuilder longest = new StringBuilder("l");
        while (longest.length() < 79) {
            longest.append("+l");
        }
        due("29: 79 bytes", tell(x, longest.toString()), 1);
        due("29: 80 bytes", tell(x, longest + "9"), -80);
        due("29: 80 bytes, too early", tell(x, longest + "*"), -81);
        due("29: high bytes", x.feed(0xec, 1) + x.text(), 0);
    }

    private static void aFaultKeepsTheText() {
        NextButOne x = people();
        due("29: a TEXT", tell(x, "a+1"), 1);
        due("29: a FAULT", tell(x, "a+"), -3);
        due("29: the one ahead stays", x.gives(0, 1), 38);
        due("29: another", tell(x, "a+2"), 1);
        due("29: in place of it", x.gives(0, 1), 39);
    }

    private static void gives() {
        NextButOne x = people();
        x.line(1, 2);
        x.come();
        due("30: 2 names whom it LIKES most", x.now(3), 1);
        x.line(1, -1);
        x.sit(-1);
        x.line(0, 2);
        Object[][] texts = {{"l", 7}, {"a", 37}, {"s", 0}, {"w", 13}, {"r", 0}, {"n", 5}, {"0012", 12},
            {"2+3*4", 14}, {"(2+3)*4", 20}, {"7-2-1", 4}, {"60/7/2", 4}, {"-7/2", -3}, {"-7%3", -1}, {"7%-3", 1},
            {"7/0", 0}, {"7%0", 0}, {"7/(1-1)+5", 5}, {"1<2", 1}, {"2<1", 0}, {"2=2", 1}, {"2=3", 0}, {"3>2", 1},
            {"2>3", 0}, {"2>2", 0}, {"2<2", 0}, {"5|0", 1}, {"0|0", 0}, {"5&3", 1}, {"5&0", 0}, {"0&5", 0},
            {"1|1&0", 1}, {"(1|1)&0", 0}, {"!5", 0}, {"!0", 1}, {"!!5", 1}, {"-5", -5}, {"--5", 5}, {"!5+3", 3},
            {"-2*3", -6}, {"1+2<4", 1}, {"1<2&2<3", 1}, {"(5)", 5}, {"9-3*2%4", 7}, {"8/3*3", 6}, {"8*3/5", 4},
            {"9999*9999*9999", (int) (99980001L * 9999L)}, {"0-5/2", -2}};
        for (Object[] t : texts) {
            due("29: " + t[0], tell(x, (String) t[0]), 1);
            due("30: " + t[0], x.gives(0, 1), (Integer) t[1]);
        }
        tell(x, "0-9999*9999*43*2-82*9999*9-99*9");
        int wrap = 0 - 9999 * 9999 * 43 * 2 - 82 * 9999 * 9 - 99 * 9;
        due("30: ints wrap", x.gives(0, 1), wrap);
        tell(x, "0-8192*8192*32");
        due("30: the least", x.gives(0, 1), -2147483647 - 1);
        tell(x, "(-8192*8192*32)/-1");
        due("30: the least by -1", x.gives(0, 1), -2147483647 - 1);
        tell(x, "(-8192*8192*32)%-1");
        due("30: the rest by -1", x.gives(0, 1), 0);
    }

    private static void names() {
        NextButOne x = people();
        due("30: NONE", x.gives(0, 1), NONE);
        due("30: BEYOND ahead of NONE", x.gives(3, 0), BEYOND);
        tell(x, "n");
        due("30: n without any", x.gives(0, 1), 0);
        x.line(1, 2);
        due("30: n", x.gives(0, 1), 5);
        due("30: n of the first itself", x.gives(0, 2), 0);
        tell(x, "l");
        due("30: l of oneself", x.gives(0, 0), 0);
        due("30: l", x.gives(0, 2), -3);
        tell(x, "s");
        due("30: s", x.gives(0, 2), 1);
        due("30: s of oneself", x.gives(1, 1), 1);
        tell(x, "w");
        due("30: w the other way", x.gives(1, 0), -4);
        tell(x, "r");
        x.come();
        due("30: r", x.gives(0, 2), 1);
        due("30: r of another one", x.gives(2, 0), 0);
        due("30: one 3", x.gives(3, 0), BEYOND);
        due("30: other 3", x.gives(0, 3), BEYOND);
        due("30: -1", x.gives(-1, 0), BEYOND);
        due("30: other -1", x.gives(0, -1), BEYOND);
    }

    private static void untell() {
        NextButOne x = people();
        due("31: none", x.untell(), 0);
        tell(x, "l");
        x.feed('a', 1);
        due("31: one", x.untell(), 1);
        due("31: none any more", x.untell(), 0);
        due("31: NONE", x.gives(0, 1), NONE);
        due("31: the tape stays", x.count(4), 1);
    }

    public static void main(String[] args) {
        feed();
        order();
        faults();
        aFaultKeepsTheText();
        gives();
        names();
        untell();
        System.out.println(wrong == 0 ? "all answers are as due" : wrong + " answers are not as due");
        if (wrong != 0) {
            System.exit(1);
        }
    }
}
