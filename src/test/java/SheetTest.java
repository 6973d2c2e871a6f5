/** Promises 32 to 36. */
public final class SheetTest {
    private static final int BEYOND = -1000000001;
    private static final int KIND = -1000000003;
    private static final int MISSING = -1000000006;
    private static final int SIZE = -1000000007;
    private static int wrong = 0;

    private static void due(String call, long got, long want) {
        if (got != want) {
            wrong++;
            System.out.println(call + " answered " + got + ", due is " + want);
        }
    }

    private static void sheet() {
        NextButOne x = new NextButOne();
        due("32: 8 bits", x.sheet(0, 8, 40), 40);
        due("32: 16 bits", x.sheet(1, 16, 1), 1);
        due("32: 64 bits", x.sheet(3, 64, 0), 0);
        due("32: none is not MISSING", x.read(3), 0);
        due("32: s 4", x.sheet(4, 8, 1), BEYOND);
        due("32: s -1", x.sheet(-1, 8, 1), BEYOND);
        due("32: 32 bits", x.sheet(0, 32, 1), BEYOND);
        due("32: -8 bits", x.sheet(0, -8, 1), BEYOND);
        due("32: bits ahead of SIZE", x.sheet(0, 7, -1), BEYOND);
        due("32: the sheet ahead of SIZE", x.sheet(4, 8, -1), BEYOND);
        due("32: SIZE", x.sheet(0, 8, -1), SIZE);
        due("32: SIZE with bits 0", x.sheet(0, 0, -1), SIZE);
        due("32: the least", x.sheet(0, 64, Integer.MIN_VALUE), SIZE);
        due("32: 41", x.sheet(0, 8, 41), BEYOND);
        due("32: 41 with bits 0", x.sheet(0, 0, 41), BEYOND);
        due("32: it stays", x.write(0, 39, 5), 0);
        due("32: of as many bits", x.copy(0, 0, 1, 0, 1), KIND);
        due("32: all 0 again", x.sheet(0, 8, 40), 40);
        due("32: 0", x.write(0, 39, 1), 0);
        due("32: MISSING", x.sheet(0, 0, 7), 0);
        due("32: it is MISSING", x.write(0, 0, 1), MISSING);
    }

    private static void write() {
        NextButOne x = new NextButOne();
        due("33: s 4", x.write(4, 0, 1), BEYOND);
        due("33: s -1", x.write(-1, 0, 1), BEYOND);
        due("33: MISSING", x.write(0, 0, 1), MISSING);
        due("33: MISSING ahead of the number", x.write(0, -1, 1), MISSING);
        x.sheet(0, 8, 2);
        x.sheet(1, 16, 2);
        x.sheet(2, 64, 2);
        due("33: i -1", x.write(0, -1, 1), BEYOND);
        due("33: i 2", x.write(0, 2, 1), BEYOND);
        long[][] cuts = {{127, 128, 255, 256, -129, 0x1234567890L}, {127, -128, -1, 0, 127, -112}};
        for (int i = 0; i < cuts[0].length; i++) {
            x.write(0, 1, cuts[0][i]);
            due("33: 8 bits of " + cuts[0][i], x.write(0, 1, 0), cuts[1][i]);
        }
        long[][] shorts = {{32767, 32768, 65535, 65536, -32769}, {32767, -32768, -1, 0, 32767}};
        for (int i = 0; i < shorts[0].length; i++) {
            x.write(1, 0, shorts[0][i]);
            due("33: 16 bits of " + shorts[0][i], x.write(1, 0, 0), shorts[1][i]);
        }
        x.write(2, 0, Long.MIN_VALUE);
        due("33: 64 bits", x.write(2, 0, -1000000001L), Long.MIN_VALUE);
        int found = x.status(-1);
        due("33: no finding", x.write(2, 0, 0), -1000000001L);
        due("33: none counted", x.status(-1), found);
        due("33: the other number stays", x.write(2, 1, 0), 0);
    }

    private static void fill(NextButOne x, int s, int... numbers) {
        for (int i = 0; i < numbers.length; i++) {
            x.write(s, i, numbers[i]);
        }
    }

    private static void holds(String what, NextButOne x, int s, int... numbers) {
        for (int i = 0; i < numbers.length; i++) {
            long was = x.write(s, i, 0);
            x.write(s, i, was);
            due(what + ", " + i, was, numbers[i]);
        }
    }

    private static void copy() {
        NextButOne x = new NextButOne();
        x.sheet(0, 16, 5);
        x.sheet(1, 16, 3);
        x.sheet(2, 8, 5);
        fill(x, 0, 1, 2, 3, 4, 5);
        due("34: s 4", x.copy(4, 0, 0, 0, 1), BEYOND);
        due("34: t 4", x.copy(0, 0, 4, 0, 1), BEYOND);
        due("34: t 4 ahead of MISSING", x.copy(3, 0, 4, 0, 1), BEYOND);
        due("34: s -1", x.copy(-1, 0, 0, 0, 1), BEYOND);
        due("34: t -1", x.copy(0, 0, -1, 0, 1), BEYOND);
        due("34: MISSING", x.copy(3, 0, 0, 0, 1), MISSING);
        due("34: t MISSING", x.copy(0, 0, 3, 0, -1), MISSING);
        due("34: KIND", x.copy(0, 0, 2, 0, -1), KIND);
        int[][] wrongs = {{-1, 0, 1}, {0, -1, 1}, {0, 0, -1}, {0, 0, 4}, {3, 0, 3}, {0, 1, 3}, {6, 0, 0}, {0, 4, 0},
            {Integer.MAX_VALUE, 0, 1}, {1, 1, Integer.MAX_VALUE}, {0, Integer.MAX_VALUE, 2}};
        for (int[] w : wrongs) {
            due("34: " + w[0] + " " + w[1] + " " + w[2], x.copy(0, w[0], 1, w[1], w[2]), BEYOND);
        }
        due("34: two", x.copy(0, 3, 1, 1, 2), 2);
        holds("34: two came", x, 1, 0, 4, 5);
        due("34: none at the end", x.copy(0, 5, 1, 3, 0), 0);
        due("34: onwards", x.copy(0, 0, 0, 1, 4), 4);
        holds("34: as they all were", x, 0, 1, 1, 2, 3, 4);
        fill(x, 0, 1, 2, 3, 4, 5);
        due("34: back", x.copy(0, 2, 0, 0, 3), 3);
        holds("34: as they all were, back", x, 0, 3, 4, 5, 4, 5);
    }

    private static void lays() {
        NextButOne x = new NextButOne();
        due("35: s 4", x.lays(4, 0), BEYOND);
        due("35: s -1", x.lays(-1, 0), BEYOND);
        due("35: MISSING ahead of the one", x.lays(0, 0), MISSING);
        x.sheet(0, 8, 6);
        due("35: no such one", x.lays(0, 0), BEYOND);
        for (int i = 0; i < 5; i++) {
            x.person(0, 30, 0);
        }
        x.likes(1, 2, 4);
        x.likes(1, 4, 3);
        fill(x, 0, -9, 5, 10, 9, -10, 1);
        due("35: one 5", x.lays(0, 5), BEYOND);
        due("35: -1", x.lays(0, -1), BEYOND);
        due("35: two came", x.lays(0, 1), 2);
        due("35: for 0", x.likes(1, 0, 0), -9);
        due("35: 10 is left out", x.likes(1, 2, 0), 4);
        due("35: for 3", x.likes(1, 3, 0), 9);
        due("35: -10 is left out", x.likes(1, 4, 0), 3);
        x.person(0, 30, 0);
        due("35: nobody got it", x.likes(1, 5, 0), 0);
        x.sheet(1, 64, 2);
        x.write(1, 1, 1L << 32);
        due("35: no number is cut", x.lays(1, 0), 0);
        x.write(1, 0, 5);
        due("35: not for oneself", x.lays(1, 0), 0);
        x.sheet(1, 16, 0);
        due("35: none", x.lays(1, 0), 0);
    }

    private static void read() {
        NextButOne x = new NextButOne();
        due("36: s 4", x.read(4), BEYOND);
        due("36: s -1", x.read(-1), BEYOND);
        due("36: MISSING", x.read(0), MISSING);
        x.sheet(0, 8, 2);
        fill(x, 0, -1, 255);
        due("36: nobody", x.read(0), 0);
        for (int i = 0; i < 4; i++) {
            x.person(0, 30, 0);
        }
        x.line(0, 1);
        x.line(1, 2);
        x.sheet(1, 64, 5);
        fill(x, 1, 1, 2, 0, 1, 2);
        due("36: right", x.read(1), 0);
        x.write(1, 4, 2 + (1L << 32));
        due("36: the last is wrong", x.read(1), 5);
        x.write(1, 2, 3);
        due("36: the first that isn't", x.read(1), 3);
        x.write(1, 0, -1);
        due("36: place 0", x.read(1), 1);
        due("36: it was a trial", x.now(0), -1);
        x.sheet(2, 16, 0);
        due("36: none", x.read(2), 0);
    }

    public static void main(String[] args) {
        sheet();
        write();
        copy();
        lays();
        read();
        System.out.println(wrong == 0 ? "all answers are as due" : wrong + " answers are not as due");
        if (wrong != 0) {
            System.exit(1);
        }
    }
}
