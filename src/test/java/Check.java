/** What the tests share, who extend it: the findings, how an answer is checked, and chairs to begin with. */
class Check {
    static final int BEYOND = -1000000001;
    static final int FULL = -1000000002;
    static final int KIND = -1000000003;
    static final int NONE = -1000000004;
    static final int STATE = -1000000005;
    static final int MISSING = -1000000006;
    static final int SIZE = -1000000007;
    private static int wrong = 0;

    static void due(String call, long got, long want) {
        if (got != want) {
            wrong++;
            System.out.println(call + " answered " + got + ", due is " + want);
        }
    }

    /** The last line of each test: it ends with 1 if an answer was wrong. */
    static void end() {
        System.out.println(wrong == 0 ? "all answers are as due" : wrong + " answers are not as due");
        if (wrong != 0) {
            System.exit(1);
        }
    }

    /** One of each of these KINDS, 30 years old and more, of SORTS 0, 1, 2, 3, 0 .. */
    static NextButOne people(int... kinds) {
        NextButOne x = new NextButOne();
        for (int i = 0; i < kinds.length; i++) {
            x.person(kinds[i], 30 + i, i % 4);
        }
        return x;
    }

    /** NAMERS of 20 years, all of SORT 0. */
    static NextButOne namers(int n) {
        NextButOne x = new NextButOne();
        for (int i = 0; i < n; i++) {
            x.person(0, 20, 0);
        }
        return x;
    }

    /** 0 is DEAD; 1 and 2 are alive; DEATH is 20. */
    static NextButOne withOneDead() {
        NextButOne x = new NextButOne();
        x.person(0, 99, 0);
        x.rule(5, 20);
        x.years(1);
        x.person(0, 30, 0);
        x.person(0, 31, 0);
        return x;
    }

    /** AHEAD becomes as many as are told, and THE LINE is for these; -1 is nobody. */
    static void stand(NextButOne x, int... who) {
        x.rule(0, 1);
        x.line(0, -1);
        x.rule(0, who.length);
        for (int place = 0; place < who.length; place++) {
            x.line(place, who[place]);
        }
    }

    static void line(String what, NextButOne x, int... want) {
        for (int place = 0; place < want.length; place++) {
            due(what + ", place " + place, x.now(2 + place), want[place]);
        }
        due(what + ", no more places", x.now(2 + want.length), BEYOND);
    }

    static void feed(NextButOne x, String bytes) {
        for (int i = 0; i < bytes.length(); i += 4) {
            int n = Math.min(4, bytes.length() - i);
            int v = 0;
            for (int j = 0; j < n; j++) {
                v = v << 8 | bytes.charAt(i + j);
            }
            x.feed(v, n);
        }
    }

    static int tell(NextButOne x, String text) {
        feed(x, text);
        return x.text();
    }

    static void fill(NextButOne x, int s, long... numbers) {
        for (int i = 0; i < numbers.length; i++) {
            x.write(s, i, numbers[i]);
        }
    }

    /** What z is behind so many draws from z on. */
    static int drawn(int z, int times) {
        long low = z & 0xffffffffL;
        for (int i = 0; i < times; i++) {
            low = (low * 1103515245L + 12345L) & 0xffffffffL;
        }
        return (int) low;
    }
}
