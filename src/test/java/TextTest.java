/** Promises 27 to 31. */
public final class TextTest extends Check {
    private static NextButOne people() {
        NextButOne x = new NextButOne();
        x.person(0, 50, 1);
        x.person(0, 37, 2);
        x.person(0, 41, 1);
        x.likes(0, 1, 7);
        x.likes(0, 2, -3);
        x.likes(2, 1, 5);
        x.worth(2, 1, 13);
        x.worth(1, 2, -4);
        return x;
    }

    private static void feed() {
        NextButOne x = new NextButOne();
        due("27: n 0", x.feed(1, 0), BEYOND);
        due("27: n 5", x.feed(1, 5), BEYOND);
        due("27: n -1", x.feed(1, -1), BEYOND);
        due("27: four", x.feed(0x28313233, 4), 4);
        due("27: the lowest alone", x.feed(0x7f7f7f29, 1), 5);
        due("27: it is (123)", x.text(), 1);
        for (int i = 1; i <= 19; i++) {
            x.feed(-1, 4);
        }
        due("27: 78", x.feed(0, 2), 78);
        due("27: FULL", x.feed(0, 3), FULL);
        due("27: FULL by 4", x.feed(0, 4), FULL);
        due("27: BEYOND ahead of FULL", x.feed(0, 5), BEYOND);
        due("27: 80", x.feed(0, 2), 80);
        due("27: FULL by 1", x.feed(0, 1), FULL);
        due("27: still 80", x.count(4), 80);
        due("28: 80", x.wipe(), 80);
        due("28: 0", x.wipe(), 0);
        due("28: empty", x.count(4), 0);
        due("27: again", x.feed('l', 1), 1);
        due("28: 1", x.wipe(), 1);
    }

    private static void order() {
        NextButOne x = people();
        x.feed(('7' << 16) | ('-' << 8) | '2', 3);
        due("27: the highest first", x.text(), 1);
        due("27: 7-2", x.gives(0, 1), 5);
    }

    private static void faults() {
        Object[][] texts = {{"", -1}, {"x", -1}, {"l ", -2}, {"12345", -5}, {"1234", 1}, {"l+", -3}, {"l+)", -3},
            {"(l", -3}, {"(l))", -4}, {")", -1}, {"l<a<s", -4}, {"(l<a)<s", 1}, {"l<a&s=w|r>n", 1}, {"la", -2},
            {"!!!!!l", 1}, {"!!!!!!l", -6}, {"-----l", 1}, {"------l", -6}, {"(((((l)))))", 1}, {"((((((l))))))", -6},
            {"!-(!(l))", 1}, {"!-(!(-l))", -6}, {"l--l", 1}, {"l---l", 1}, {"l+-!l", 1},
            {"l**a", -3}, {"|l", -1}, {"l||a", -3}, {"l&", -3}, {"l=", -3}, {"!", -2}, {"()", -2}, {"L", -1},
            {"1l", -2}, {"l1", -2}, {"1 2", -2}, {"00009", -5}, {"(1)2", -4}, {"l=a=s", -4}, {"!l=!a", 1}};
        for (Object[] t : texts) {
            NextButOne x = new NextButOne();
            due("29: " + t[0], tell(x, (String) t[0]), (Integer) t[1]);
            due("29: the tape is empty, " + t[0], x.count(4), 0);
            due("29: no finding, " + t[0], x.status(-1), 0);
        }
        NextButOne x = new NextButOne();
        StringBuilder longest = new StringBuilder("l");
        while (longest.length() < 79) {
            longest.append("+l");
        }
        due("29: 79 bytes", tell(x, longest.toString()), 1);
        due("29: 80 bytes", tell(x, longest + "9"), -80);
        due("29: 80 bytes, too early", tell(x, longest + "*"), -81);
        due("29: high bytes", x.feed(0xec, 1) + x.text(), 0);
    }

    private static int answerTo(String text) {
        return tell(new NextButOne(), text);
    }

    /** THE TAPE with k bytes on it. */
    private static NextButOne taped(int k) {
        NextButOne x = new NextButOne();
        feed(x, "l".repeat(k));
        return x;
    }

    private static void tapeAtTheEdges() {
        for (int n = 1; n <= 4; n++) {
            due("27: from empty, n " + n, taped(0).feed(0, n), n);
            due("27: 80 by n " + n, taped(80 - n).feed(0, n), 80);
            NextButOne x = taped(81 - n);
            due("27: 81 by n " + n, x.feed(0, n), FULL);
            due("27: as many as before, n " + n, x.count(4), 81 - n);
            due("27: none came, n " + n, x.wipe(), 81 - n);
        }
        NextButOne y = taped(80);
        due("28: 80", y.wipe(), 80);
        due("28: there is room again", y.feed(0, 4), 4);
        NextButOne z = taped(80);
        due("29: a FAULT", z.text(), -2);
        due("29: there is room again", z.feed(0, 4), 4);
        due("28: empty", new NextButOne().wipe(), 0);
    }

    private static void theLowestBytes() {
        int[] masks = {0x39, 0x2b39, 0x392b39, 0x312b392b};
        for (int n = 1; n <= 3; n++) {
            NextButOne x = people();
            x.feed(0x80000000 | 0x28 << 8 * n | masks[n - 1], n);
            due("27: higher bytes are left out, n " + n, x.text(), n == 2 ? -1 : 1);
        }
        NextButOne y = people();
        due("27: four, the highest first", y.feed(masks[3], 4), 4);
        y.feed('7', 1);
        due("27: 1+9+7", y.text(), 1);
        due("27: 1+9+7 gives", y.gives(0, 1), 17);
        NextButOne z = new NextButOne();
        z.feed(0xec8080ec, 4);
        due("27: a byte above 127 is no sign", z.text(), -1);
    }

    /** Each byte at first: a TEXT, the beginning of one, or a FAULT at once; and each behind some beginnings. */
    private static void eachByte() {
        for (int b = 0; b < 256; b++) {
            String sign = String.valueOf((char) b);
            boolean digit = b >= '0' && b <= '9';
            boolean name = "laswrn".contains(sign);
            boolean opens = "!-(".contains(sign);
            boolean joins = "|&<=>+-*/%".contains(sign);
            due("29: byte " + b, answerTo(sign), digit || name ? 1 : opens ? -2 : -1);
            due("29: byte " + b + " behind l", answerTo("l" + sign), joins ? -3 : -2);
            due("29: byte " + b + " behind 123", answerTo("123" + sign), digit ? 1 : joins ? -5 : -4);
            due("29: byte " + b + " behind 1234", answerTo("1234" + sign), joins ? -6 : -5);
            due("29: byte " + b + " behind (l", answerTo("(l" + sign), b == ')' ? 1 : joins ? -4 : -3);
            due("29: byte " + b + " behind (l)", answerTo("(l)" + sign), joins ? -5 : -4);
            due("29: byte " + b + " behind (", answerTo("(" + sign), digit || name || opens ? -3 : -2);
            due("29: byte " + b + " behind l+", answerTo("l+" + sign), digit || name ? 1 : opens ? -4 : -3);
            boolean compares = "<=>".contains(sign);
            due("29: byte " + b + " behind l<a", answerTo("l<a" + sign), joins && !compares ? -5 : -4);
            due("29: byte " + b + " behind (l<a", answerTo("(l<a" + sign),
                b == ')' ? 1 : joins && !compares ? -6 : -5);
        }
    }

    private static void numbers() {
        String[] texts = {"0", "9", "10", "999", "1000", "9999", "0000", "0001"};
        int[] values = {0, 9, 10, 999, 1000, 9999, 0, 1};
        for (int i = 0; i < texts.length; i++) {
            NextButOne x = people();
            due("29: NUMBER " + texts[i], tell(x, texts[i]), 1);
            due("30: NUMBER " + texts[i], x.gives(0, 1), values[i]);
        }
        due("29: 5 digits", answerTo("10000"), -5);
        due("29: 5 digits that are 1", answerTo("00001"), -5);
        due("29: 5 digits behind", answerTo("1+12345"), -7);
    }

    /** Five of ! - ( may be open at once, in any order, six not. */
    private static void fiveOpenAtOnce() {
        for (int k = 0; k <= 6; k++) {
            int ways = (int) Math.round(Math.pow(3, k));
            for (int way = 0; way < ways; way++) {
                StringBuilder open = new StringBuilder();
                StringBuilder close = new StringBuilder();
                for (int i = 0, w = way; i < k; i++, w /= 3) {
                    open.append("!-(".charAt(w % 3));
                    close.append(w % 3 == 2 ? ")" : "");
                }
                due("29: open " + open, answerTo(open + "l" + close), k <= 5 ? 1 : -1 - 5);
                due("29: open " + open + " and no more", answerTo(open.toString()), -1 - Math.min(k, 5));
            }
        }
    }

    private static void openAgain() {
        due("29: closed, ( is open again", answerTo("(((((l)))))+(((((l)))))"), 1);
        due("29: closed, ! is open again", answerTo("!!!!!l+!!!!!l"), 1);
        due("29: - between two isn't open", answerTo("l-l-l-l-l-l-l-l"), 1);
        due("29: - between, then five", answerTo("l------l"), 1);
        due("29: - between, then six", answerTo("l-------l"), -8);
        due("29: four and one again", answerTo("((((!l+!l))))"), 1);
        due("29: five, - between", answerTo("(((((l-l)))))"), 1);
        due("29: five, then -", answerTo("(((((l+-l)))))"), -8);
        due("29: five, then !", answerTo("(((((!l)))))"), -6);
        due("29: one less is open behind )", answerTo("(((((l)+!l))))"), 1);
        due("29: a Q behind ! ends it", answerTo("!(!(!l+!l)+!l)"), 1);
        due("29: ! is open in its (", answerTo("!(!(!!l))"), -6);
        due("29: ! is open in its (, one less", answerTo("!(!(!l))"), 1);
    }

    private static void faultAtTheEnd() {
        String[] early = {"", "(", "!", "-", "l+", "l-", "l*", "l/", "l%", "l<", "l=", "l>", "l&", "l|", "(l", "((l)",
            "l+(", "l<a&", "(1234", "-(", "!!!!!", "(((((l))))"};
        for (String t : early) {
            due("29: too early: " + t, answerTo(t), -1 - t.length());
        }
        String full = "12" + "+l".repeat(39);
        due("29: 80 bytes", answerTo(full), 1);
        due("29: 80 bytes, the first is none", answerTo("x" + full.substring(1)), -1);
        due("29: 80 bytes, the last is none", answerTo(full.substring(0, 79) + "x"), -80);
        due("29: 80 bytes, ( is open", answerTo("(l+" + full.substring(3)), -1 - 80);
        due("29: 80 bytes end by +", answerTo("1234" + "+l".repeat(37) + "l+"), -1 - 78);
        due("29: 80 bytes end by + too early", answerTo("123" + "+l".repeat(38) + "+"), -1 - 80);
    }

    /** Of 80 bytes most are worked out when all NUMBERS are short. */
    private static void theLongest() {
        NextButOne x = people();
        due("29: 79 bytes", tell(x, "1" + "+1".repeat(39)), 1);
        due("30: forty ones", x.gives(0, 1), 40);
        due("29: 80 bytes", tell(x, "-1" + "-1".repeat(39)), 1);
        due("30: forty less", x.gives(0, 1), -40);
        due("29: all joins", tell(x, "1|1&1<1+1*1|".repeat(6) + "1"), 1);
        due("30: all joins", x.gives(0, 1), 1);
        due("29: nested", tell(x, "1+(1+(1+(1+(1+(1+1*1*1*1*1*1*1*1*1*1*1*1*1*1*1*1*1*1*1)))))"), 1);
        due("30: nested", x.gives(0, 1), 7);
    }

    /** Forty of the same kind, joined from the left on. */
    private static void longChains() {
        worked(new Object[][] {{"0" + "|0".repeat(38) + "|1", 1}, {"0" + "|0".repeat(39), 0}, {"1" + "&1".repeat(39), 1},
            {"1" + "&1".repeat(38) + "&0", 0}, {"9" + "-1".repeat(39), -30}, {"1" + "+2".repeat(39), 79},
            {"7" + "*1".repeat(38) + "*2", 14}, {"7" + "/1".repeat(38) + "/2", 3}, {"7" + "%9".repeat(38) + "%2", 1},
            {"1" + "|0&0".repeat(19), 1}, {"2" + "*3/3".repeat(19), 2}, {"5" + "+2-1".repeat(19), 24}});
        due("29: compared once alone", answerTo("1" + "<1".repeat(39)), -4);
        due("29: compared once in each B", answerTo("1" + "<1&1".repeat(19)), 1);
    }

    private static void wraps() {
        Object[][] texts = {{"8192*8192*32", Integer.MIN_VALUE}, {"8192*8192*32-1", Integer.MAX_VALUE},
            {"8192*8192*32-1+1", Integer.MIN_VALUE}, {"-(8192*8192*32)", Integer.MIN_VALUE},
            {"8192*8192*64", 0}, {"8192*8192*32/-1", Integer.MIN_VALUE}, {"8192*8192*32%-1", 0},
            {"(8192*8192*32-1)*2", -2}, {"8192*8192*32<0", 1}, {"8192*8192*32-1>0", 1},
            {"8192*8192*32/9999", Integer.MIN_VALUE / 9999}, {"8192*8192*32%9999", Integer.MIN_VALUE % 9999},
            {"!(8192*8192*32)", 0}, {"8192*8192*32&1", 1}, {"8192*8192*64|0", 0},
            {"8192*8192*32<(8192*8192*32-1)", 1}, {"8192*8192*32=-(8192*8192*32)", 1}};
        worked(texts);
    }

    private static void worked(Object[][] texts) {
        NextButOne x = people();
        for (Object[] t : texts) {
            due("29: " + t[0], tell(x, (String) t[0]), 1);
            due("30: " + t[0], x.gives(0, 1), (Integer) t[1]);
        }
    }

    private static void byZero() {
        worked(new Object[][] {{"7/0", 0}, {"7%0", 0}, {"0/0", 0}, {"0%0", 0}, {"-7/0", 0}, {"-7%0", 0},
            {"7/0+3", 3}, {"3-7%0", 3}, {"9/s", 0}, {"9%s", 0}, {"9/(s-s)|1", 1}, {"!(9/0)", 1}, {"7/0=0", 1},
            {"8192*8192*32/0", 0}, {"8192*8192*32%0", 0}, {"0&7/0", 0}, {"1|7%0", 1}});
    }

    private static void cutTowardsNought() {
        worked(new Object[][] {{"7/2", 3}, {"-7/2", -3}, {"7/-2", -3}, {"-7/-2", 3}, {"1/2", 0}, {"-1/2", 0},
            {"7%2", 1}, {"-7%2", -1}, {"7%-2", 1}, {"-7%-2", -1}, {"6/2", 3}, {"6%2", 0}, {"-6%2", 0}});
    }

    /** What is not 0 is true, below 0 too; all answers are 1 or 0. */
    private static void truths() {
        worked(new Object[][] {{"-1&-1", 1}, {"-1|0", 1}, {"0|-1", 1}, {"2&4", 1}, {"2|4", 1}, {"0&0", 0}, {"0|0", 0},
            {"0&-1", 0}, {"!-1", 0}, {"!2", 0}, {"!0", 1}, {"--1", 1}, {"-0", 0}, {"1=1", 1}, {"-1<0", 1}, {"0<-1", 0},
            {"0>-1", 1}, {"-1>0", 0}, {"0<0", 0}, {"0>0", 0}, {"0=0", 1},
            {"(1<2)<3", 1}, {"(3>2)=1", 1}, {"(2=2)+(3=3)", 2}, {"5&6&7", 1}, {"5&0&7", 0}, {"0|0|9", 1},
            {"1|0&0", 1}, {"0&0|1", 1}, {"1<2&3>2|0", 1}, {"1+1=2", 1}, {"2*3=6&1", 1}});
    }

    private static void aFaultKeepsTheText() {
        NextButOne x = people();
        due("29: a TEXT", tell(x, "a+1"), 1);
        due("29: a FAULT", tell(x, "a+"), -3);
        due("29: the one ahead stays", x.gives(0, 1), 38);
        due("29: another", tell(x, "a+2"), 1);
        due("29: in place of it", x.gives(0, 1), 39);
    }

    private static void gives() {
        NextButOne x = people();
        x.line(1, 2);
        x.come();
        due("30: 2 names whom it LIKES most", x.now(3), 1);
        x.line(1, -1);
        x.sit(-1);
        x.line(0, 2);
        Object[][] texts = {{"l", 7}, {"a", 37}, {"s", 0}, {"w", 13}, {"r", 0}, {"n", 5}, {"0012", 12},
            {"2+3*4", 14}, {"(2+3)*4", 20}, {"7-2-1", 4}, {"60/7/2", 4}, {"-7/2", -3}, {"-7%3", -1}, {"7%-3", 1},
            {"7/0", 0}, {"7%0", 0}, {"7/(1-1)+5", 5}, {"1<2", 1}, {"2<1", 0}, {"2=2", 1}, {"2=3", 0}, {"3>2", 1},
            {"2>3", 0}, {"2>2", 0}, {"2<2", 0}, {"5|0", 1}, {"0|0", 0}, {"5&3", 1}, {"5&0", 0}, {"0&5", 0},
            {"1|1&0", 1}, {"(1|1)&0", 0}, {"!5", 0}, {"!0", 1}, {"!!5", 1}, {"-5", -5}, {"--5", 5}, {"!5+3", 3},
            {"-2*3", -6}, {"1+2<4", 1}, {"1<2&2<3", 1}, {"(5)", 5}, {"9-3*2%4", 7}, {"8/3*3", 6}, {"8*3/5", 4},
            {"9999*9999*9999", (int) (99980001L * 9999L)}, {"0-5/2", -2}};
        for (Object[] t : texts) {
            due("29: " + t[0], tell(x, (String) t[0]), 1);
            due("30: " + t[0], x.gives(0, 1), (Integer) t[1]);
        }
        tell(x, "0-9999*9999*43*2-82*9999*9-99*9");
        int wrap = 0 - 9999 * 9999 * 43 * 2 - 82 * 9999 * 9 - 99 * 9;
        due("30: ints wrap", x.gives(0, 1), wrap);
        tell(x, "0-8192*8192*32");
        due("30: the least", x.gives(0, 1), -2147483647 - 1);
        tell(x, "(-8192*8192*32)/-1");
        due("30: the least by -1", x.gives(0, 1), -2147483647 - 1);
        tell(x, "(-8192*8192*32)%-1");
        due("30: the rest by -1", x.gives(0, 1), 0);
    }

    private static void names() {
        NextButOne x = people();
        due("30: NONE", x.gives(0, 1), NONE);
        due("30: BEYOND ahead of NONE", x.gives(3, 0), BEYOND);
        tell(x, "n");
        due("30: n without any", x.gives(0, 1), 0);
        x.line(1, 2);
        due("30: n", x.gives(0, 1), 5);
        due("30: n of the first itself", x.gives(0, 2), 0);
        tell(x, "l");
        due("30: l of oneself", x.gives(0, 0), 0);
        due("30: l", x.gives(0, 2), -3);
        tell(x, "s");
        due("30: s", x.gives(0, 2), 1);
        due("30: s of oneself", x.gives(1, 1), 1);
        tell(x, "w");
        due("30: w the other way", x.gives(1, 0), -4);
        tell(x, "r");
        x.come();
        due("30: r", x.gives(0, 2), 1);
        due("30: r of another one", x.gives(2, 0), 0);
        due("30: one 3", x.gives(3, 0), BEYOND);
        due("30: other 3", x.gives(0, 3), BEYOND);
        due("30: -1", x.gives(-1, 0), BEYOND);
        due("30: other -1", x.gives(0, -1), BEYOND);
    }

    /** What THE TEXT gives is of another one, for one; a DEAD one is one, too. */
    private static void givesOfTheDead() {
        NextButOne x = withOneDead();
        x.likes(0, 1, -9);
        x.likes(1, 0, 9);
        tell(x, "l*100+a");
        due("30: for a DEAD one", x.gives(0, 1), -900 + 30);
        due("30: of a DEAD one", x.gives(1, 0), 900 + 99);
        due("30: of a DEAD one for itself", x.gives(0, 0), 99);
        x.line(0, 1);
        tell(x, "n");
        due("30: n of a DEAD one", x.gives(2, 0), 9);
        due("30: n of the first itself", x.gives(2, 1), 0);
        due("30: n for the first itself", x.gives(1, 0), 9);
    }

    private static void untell() {
        NextButOne x = people();
        due("31: none", x.untell(), 0);
        tell(x, "l");
        x.feed('a', 1);
        due("31: one", x.untell(), 1);
        due("31: none any more", x.untell(), 0);
        due("31: NONE", x.gives(0, 1), NONE);
        due("31: the tape stays", x.count(4), 1);
    }

    public static void main(String[] args) {
        feed();
        order();
        faults();
        tapeAtTheEdges();
        theLowestBytes();
        eachByte();
        numbers();
        fiveOpenAtOnce();
        openAgain();
        faultAtTheEnd();
        theLongest();
        longChains();
        wraps();
        byZero();
        cutTowardsNought();
        truths();
        aFaultKeepsTheText();
        gives();
        names();
        givesOfTheDead();
        untell();
        end();
    }
}
