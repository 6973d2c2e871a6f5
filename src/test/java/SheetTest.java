/** Promises 32 to 36. */
public final class SheetTest extends Check {
    private static void sheet() {
        NextButOne x = new NextButOne();
        due("32: 8 bits", x.sheet(0, 8, 40), 40);
        due("32: 16 bits", x.sheet(1, 16, 1), 1);
        due("32: 64 bits", x.sheet(3, 64, 0), 0);
        due("32: none is not MISSING", x.read(3), 0);
        due("32: s 4", x.sheet(4, 8, 1), BEYOND);
        due("32: s -1", x.sheet(-1, 8, 1), BEYOND);
        due("32: 32 bits", x.sheet(0, 32, 1), BEYOND);
        due("32: -8 bits", x.sheet(0, -8, 1), BEYOND);
        due("32: bits ahead of SIZE", x.sheet(0, 7, -1), BEYOND);
        due("32: the sheet ahead of SIZE", x.sheet(4, 8, -1), BEYOND);
        due("32: SIZE", x.sheet(0, 8, -1), SIZE);
        due("32: SIZE with bits 0", x.sheet(0, 0, -1), SIZE);
        due("32: the least", x.sheet(0, 64, Integer.MIN_VALUE), SIZE);
        due("32: 41", x.sheet(0, 8, 41), BEYOND);
        due("32: 41 with bits 0", x.sheet(0, 0, 41), BEYOND);
        due("32: it stays", x.write(0, 39, 5), 0);
        due("32: of as many bits", x.copy(0, 0, 1, 0, 1), KIND);
        due("32: all 0 again", x.sheet(0, 8, 40), 40);
        due("32: 0", x.write(0, 39, 1), 0);
        due("32: MISSING", x.sheet(0, 0, 7), 0);
        due("32: it is MISSING", x.write(0, 0, 1), MISSING);
    }

    private static void write() {
        NextButOne x = new NextButOne();
        due("33: s 4", x.write(4, 0, 1), BEYOND);
        due("33: s -1", x.write(-1, 0, 1), BEYOND);
        due("33: MISSING", x.write(0, 0, 1), MISSING);
        due("33: MISSING ahead of the number", x.write(0, -1, 1), MISSING);
        x.sheet(0, 8, 2);
        x.sheet(1, 16, 2);
        x.sheet(2, 64, 2);
        due("33: i -1", x.write(0, -1, 1), BEYOND);
        due("33: i 2", x.write(0, 2, 1), BEYOND);
        long[][] cuts = {{127, 128, 255, 256, -129, 0x1234567890L}, {127, -128, -1, 0, 127, -112}};
        for (int i = 0; i < cuts[0].length; i++) {
            x.write(0, 1, cuts[0][i]);
            due("33: 8 bits of " + cuts[0][i], x.write(0, 1, 0), cuts[1][i]);
        }
        long[][] shorts = {{32767, 32768, 65535, 65536, -32769}, {32767, -32768, -1, 0, 32767}};
        for (int i = 0; i < shorts[0].length; i++) {
            x.write(1, 0, shorts[0][i]);
            due("33: 16 bits of " + shorts[0][i], x.write(1, 0, 0), shorts[1][i]);
        }
        x.write(2, 0, Long.MIN_VALUE);
        due("33: 64 bits", x.write(2, 0, -1000000001L), Long.MIN_VALUE);
        int found = x.status(-1);
        due("33: no finding", x.write(2, 0, 0), -1000000001L);
        due("33: none counted", x.status(-1), found);
        due("33: the other number stays", x.write(2, 1, 0), 0);
    }

    private static void holds(String what, NextButOne x, int s, int... numbers) {
        for (int i = 0; i < numbers.length; i++) {
            long was = x.write(s, i, 0);
            x.write(s, i, was);
            due(what + ", " + i, was, numbers[i]);
        }
    }

    private static void copy() {
        NextButOne x = new NextButOne();
        x.sheet(0, 16, 5);
        x.sheet(1, 16, 3);
        x.sheet(2, 8, 5);
        fill(x, 0, 1, 2, 3, 4, 5);
        due("34: s 4", x.copy(4, 0, 0, 0, 1), BEYOND);
        due("34: t 4", x.copy(0, 0, 4, 0, 1), BEYOND);
        due("34: t 4 ahead of MISSING", x.copy(3, 0, 4, 0, 1), BEYOND);
        due("34: s -1", x.copy(-1, 0, 0, 0, 1), BEYOND);
        due("34: t -1", x.copy(0, 0, -1, 0, 1), BEYOND);
        due("34: MISSING", x.copy(3, 0, 0, 0, 1), MISSING);
        due("34: t MISSING", x.copy(0, 0, 3, 0, -1), MISSING);
        due("34: KIND", x.copy(0, 0, 2, 0, -1), KIND);
        int[][] wrongs = {{-1, 0, 1}, {0, -1, 1}, {0, 0, -1}, {0, 0, 4}, {3, 0, 3}, {0, 1, 3}, {6, 0, 0}, {0, 4, 0},
            {Integer.MAX_VALUE, 0, 1}, {1, 1, Integer.MAX_VALUE}, {0, Integer.MAX_VALUE, 2}};
        for (int[] w : wrongs) {
            due("34: " + w[0] + " " + w[1] + " " + w[2], x.copy(0, w[0], 1, w[1], w[2]), BEYOND);
        }
        due("34: two", x.copy(0, 3, 1, 1, 2), 2);
        holds("34: two came", x, 1, 0, 4, 5);
        due("34: none at the end", x.copy(0, 5, 1, 3, 0), 0);
        due("34: onwards", x.copy(0, 0, 0, 1, 4), 4);
        holds("34: as they all were", x, 0, 1, 1, 2, 3, 4);
        fill(x, 0, 1, 2, 3, 4, 5);
        due("34: back", x.copy(0, 2, 0, 0, 3), 3);
        holds("34: as they all were, back", x, 0, 3, 4, 5, 4, 5);
    }

    private static void lays() {
        NextButOne x = new NextButOne();
        due("35: s 4", x.lays(4, 0), BEYOND);
        due("35: s -1", x.lays(-1, 0), BEYOND);
        due("35: MISSING ahead of the one", x.lays(0, 0), MISSING);
        x.sheet(0, 8, 6);
        due("35: no such one", x.lays(0, 0), BEYOND);
        for (int i = 0; i < 5; i++) {
            x.person(0, 30, 0);
        }
        x.likes(1, 2, 4);
        x.likes(1, 4, 3);
        fill(x, 0, -9, 5, 10, 9, -10, 1);
        due("35: one 5", x.lays(0, 5), BEYOND);
        due("35: -1", x.lays(0, -1), BEYOND);
        due("35: two came", x.lays(0, 1), 2);
        due("35: for 0", x.likes(1, 0, 0), -9);
        due("35: 10 is left out", x.likes(1, 2, 0), 4);
        due("35: for 3", x.likes(1, 3, 0), 9);
        due("35: -10 is left out", x.likes(1, 4, 0), 3);
        x.person(0, 30, 0);
        due("35: nobody got it", x.likes(1, 5, 0), 0);
        x.sheet(1, 64, 2);
        x.write(1, 1, 1L << 32);
        due("35: no number is cut", x.lays(1, 0), 0);
        x.write(1, 0, 5);
        due("35: not for oneself", x.lays(1, 0), 0);
        x.sheet(1, 16, 0);
        due("35: none", x.lays(1, 0), 0);
    }

    private static void read() {
        NextButOne x = new NextButOne();
        due("36: s 4", x.read(4), BEYOND);
        due("36: s -1", x.read(-1), BEYOND);
        due("36: MISSING", x.read(0), MISSING);
        x.sheet(0, 8, 2);
        fill(x, 0, -1, 255);
        due("36: nobody", x.read(0), 0);
        for (int i = 0; i < 4; i++) {
            x.person(0, 30, 0);
        }
        x.line(0, 1);
        x.line(1, 2);
        x.sheet(1, 64, 5);
        fill(x, 1, 1, 2, 0, 1, 2);
        due("36: right", x.read(1), 0);
        x.write(1, 4, 2 + (1L << 32));
        due("36: the last is wrong", x.read(1), 5);
        x.write(1, 2, 3);
        due("36: the first that isn't", x.read(1), 3);
        x.write(1, 0, -1);
        due("36: place 0", x.read(1), 1);
        due("36: it was a trial", x.now(0), -1);
        x.sheet(2, 16, 0);
        due("36: none", x.read(2), 0);
    }

    /** The same sheet again: all 0, of its new bits and as many as told, whatever it held. */
    private static void laidAgain() {
        NextButOne x = new NextButOne();
        for (int bits : new int[] {64, 8, 16, 64}) {
            due("32: 40 of " + bits, x.sheet(2, bits, 40), 40);
            for (int i = 0; i < 40; i++) {
                due("32: all 0, " + i + " of " + bits, x.write(2, i, -1), 0);
            }
            due("32: less of " + bits, x.sheet(2, bits, 39), 39);
            due("32: 39 isn't there, " + bits, x.write(2, 39, 1), BEYOND);
            due("32: 38 is there, 0 again, " + bits, x.write(2, 38, 1), 0);
        }
        due("32: none", x.sheet(2, 8, 0), 0);
        due("32: none isn't MISSING", x.write(2, 0, 1), BEYOND);
        due("32: MISSING, n 40", x.sheet(2, 0, 40), 0);
        due("32: MISSING", x.write(2, 0, 1), MISSING);
        due("32: MISSING again", x.sheet(2, 0, 0), 0);
        due("32: the others are MISSING", x.write(1, 0, 1), MISSING);
    }

    private static void lowestBits() {
        long[] written = {Long.MAX_VALUE, Long.MIN_VALUE, 1L << 63 | 0x8080, 1L << 32 | 0x7f, 0xff, 0xffff, 0x100, 0x10000, -1, 0};
        long[] of8 = {-1, 0, -128, 127, -1, -1, 0, 0, -1, 0};
        long[] of16 = {-1, 0, -32640, 127, 255, -1, 256, 0, -1, 0};
        NextButOne x = new NextButOne();
        x.sheet(0, 8, 1);
        x.sheet(1, 16, 1);
        x.sheet(2, 64, 1);
        for (int i = 0; i < written.length; i++) {
            x.write(0, 0, written[i]);
            x.write(1, 0, written[i]);
            x.write(2, 0, written[i]);
            due("33: 8 bits of " + written[i], x.write(0, 0, 5), of8[i]);
            due("33: 16 bits of " + written[i], x.write(1, 0, 5), of16[i]);
            due("33: 64 bits of " + written[i], x.write(2, 0, 5), written[i]);
        }
    }

    private static NextButOne twoOfForty() {
        NextButOne x = new NextButOne();
        x.sheet(0, 64, 40);
        x.sheet(1, 64, 40);
        for (int i = 0; i < 40; i++) {
            x.write(0, i, 100 + i);
        }
        return x;
    }

    private static void copyAll() {
        NextButOne x = twoOfForty();
        due("34: all 40", x.copy(0, 0, 1, 0, 40), 40);
        for (int i = 0; i < 40; i++) {
            due("34: came, " + i, x.write(1, i, 0), 100 + i);
            due("34: stays, " + i, x.write(0, i, 0), 100 + i);
        }
        due("34: 41", x.copy(0, 0, 1, 0, 41), BEYOND);
        due("34: 40 from 1 on", x.copy(0, 1, 1, 0, 40), BEYOND);
        due("34: 40 to 1", x.copy(0, 0, 1, 1, 40), BEYOND);
        due("34: none from 40 to 40", x.copy(0, 40, 1, 40, 0), 0);
        due("34: none from 41", x.copy(0, 41, 1, 0, 0), BEYOND);
        due("34: none to 41", x.copy(0, 0, 1, 41, 0), BEYOND);
    }

    private static void copyOne() {
        NextButOne x = twoOfForty();
        due("34: the last to the first", x.copy(0, 39, 1, 0, 1), 1);
        due("34: the first to the last", x.copy(0, 0, 1, 39, 1), 1);
        due("34: came first", x.write(1, 0, 0), 139);
        due("34: came last", x.write(1, 39, 0), 100);
        due("34: no other came", x.write(1, 1, 0) + x.write(1, 38, 0), 0);
    }

    /** Within a sheet, as they all were, on and back by one. */
    private static void copyWithin() {
        NextButOne x = twoOfForty();
        due("34: on by one", x.copy(0, 0, 0, 1, 39), 39);
        for (int i = 0; i < 40; i++) {
            due("34: on by one, " + i, x.write(0, i, 200 + i), i == 0 ? 100 : 99 + i);
        }
        due("34: back by one", x.copy(0, 1, 0, 0, 39), 39);
        for (int i = 0; i < 40; i++) {
            due("34: back by one, " + i, x.write(0, i, i), i == 39 ? 239 : 201 + i);
        }
        due("34: to itself", x.copy(0, 0, 0, 0, 40), 40);
        due("34: to itself, the same", x.write(0, 17, 0), 17);
    }

    private static void laysForTen() {
        NextButOne x = namers(10);
        x.sheet(0, 8, 40);
        for (int i = 0; i < 40; i++) {
            x.write(0, i, 9);
        }
        due("35: all others of ten", x.lays(0, 4), 9);
        for (int other = 0; other < 10; other++) {
            due("35: for " + other, other == 4 ? 9 : x.likes(4, other, 0), 9);
        }
        due("35: not of another one", x.likes(3, 4, 0), 0);
        due("35: of the first", x.lays(0, 0), 9);
        due("35: of the last", x.lays(0, 9), 9);
        due("35: 10 is nobody", x.lays(0, 10), BEYOND);
        due("35: few numbers", x.sheet(0, 8, 3) + x.lays(0, 9), 3 + 3);
        due("35: few numbers, oneself among them", x.lays(0, 2), 2);
        due("35: LIKES are 0 then", x.likes(9, 0, 1), 0);
        due("35: others stay", x.likes(9, 3, 1), 9);
    }

    private static void laysAtTheEdges() {
        long[] numbers = {-10, -9, 9, 10, Long.MIN_VALUE, Long.MAX_VALUE, 1L << 32, (1L << 32) - 9, 0};
        NextButOne x = namers(10);
        x.sheet(3, 64, 9);
        fill(x, 3, numbers);
        for (int other = 0; other < 9; other++) {
            x.likes(9, other, 5);
        }
        due("35: three came", x.lays(3, 9), 3);
        int[] likes = {5, -9, 9, 5, 5, 5, 5, 5, 0};
        for (int other = 0; other < 9; other++) {
            due("35: LIKES for " + other, x.likes(9, other, 5), likes[other]);
        }
        NextButOne y = withOneDead();
        y.sheet(0, 16, 3);
        fill(y, 0, 3, 4, 5);
        due("35: of a DEAD one", y.lays(0, 0), 2);
        due("35: for a DEAD one", y.lays(0, 1), 2);
        due("35: it came", y.likes(1, 0, 0), 3);
    }

    private static void readForty() {
        for (int bits : new int[] {8, 16, 64}) {
            NextButOne x = namers(10);
            stand(x, 0, 1, 2, 3);
            x.sheet(1, bits, 40);
            for (int i = 0; i < 40; i++) {
                x.write(1, i, x.ahead(i + 1));
            }
            due("36: all 40 are right, " + bits, x.read(1), 0);
            for (int i = 39; i >= 0; i--) {
                x.write(1, i, 10);
                due("36: the first that isn't, " + i + " of " + bits, x.read(1), 1 + i);
            }
        }
        NextButOne y = new NextButOne();
        y.sheet(0, 8, 40);
        due("36: 0 isn't nobody", y.read(0), 1);
        y.sheet(0, 8, 0);
        due("36: none", y.read(0), 0);
        y.sheet(0, 64, 1);
        y.write(0, 0, 0xffffffffL);
        due("36: all 64 bits count", y.read(0), 1);
        y.write(0, 0, -1);
        due("36: nobody", y.read(0), 0);
    }

    public static void main(String[] args) {
        sheet();
        write();
        copy();
        lays();
        read();
        laidAgain();
        lowestBits();
        copyAll();
        copyOne();
        copyWithin();
        laysForTen();
        laysAtTheEdges();
        readForty();
        end();
    }
}
