/** Promises 37 to 41. */
public final class ImageTest extends Check {
    private static NextButOne full() {
        NextButOne x = new NextButOne();
        for (int i = 0; i < 4; i++) {
            x.person(i, 30 + i, i);
        }
        x.line(0, 1);
        x.line(1, 2);
        // so that the FRIEND names 3, and 0 may sit
        x.likes(2, 3, 1);
        x.come();
        x.sit(0);
        x.years(1);
        x.feed('a', 1);
        x.text();
        return x;
    }

    private static void change(NextButOne x) {
        x.person(5, 77, 3);
        x.set(0, 0, 6);
        x.set(0, 1, 98);
        x.set(0, 2, 3);
        x.set(0, 3, 14);
        x.likes(0, 1, 9);
        x.worth(1, 2, 50);
        x.rule(5, 20);
        x.rule(1, 1);
        x.rule(2, 1);
        x.rule(3, 1);
        x.rule(4, 2);
        x.rule(0, 4);
        x.years(40);
        x.untell();
        x.seed(99);
    }

    private static void undo() {
        NextButOne x = full();
        int z = x.count(5);
        due("38: NONE", x.undo(), NONE);
        due("37: 1", x.image(), 1);
        change(x);
        due("38: how many PEOPLE", x.undo(), 4);
        due("38: KIND", x.of(0, 0), 0);
        due("38: AGE", x.of(0, 1), 31);
        due("38: SORT", x.of(0, 2), 0);
        due("38: KIN", x.of(0, 3), 0);
        due("38: RULED", x.count(3), 1);
        due("38: DEAD", x.of(0, 5), 0);
        due("38: alive", x.count(1), 4);
        due("38: SITS", x.now(0), 0);
        due("38: REIGN", x.now(1), 1);
        due("38: place 0", x.now(2), 2);
        due("38: place 1", x.now(3), 3);
        due("38: AHEAD", x.now(4), BEYOND);
        due("38: z", x.count(5), z);
        due("38: LIKES", x.likes(0, 1, 1), 0);
        due("38: WORTH", x.worth(1, 2, 1), 0);
        due("38: the TEXT", x.gives(0, 1), 32);
        int[] rules = {2, 7, 0, 0, 0, 2};
        for (int what = 0; what < 6; what++) {
            due("38: rule " + what, x.rule(what, rules[what]), rules[what]);
        }
        due("38: it stays", x.undo(), 4);
        due("38: LIKES again", x.likes(0, 1, 1), 0);
    }

    private static void latest() {
        NextButOne x = full();
        x.image();
        x.person(0, 50, 0);
        due("37: the latest", x.image(), 1);
        x.person(0, 50, 0);
        due("38: of the latest", x.undo(), 5);
        due("39: something was", x.tear(), 1);
        due("39: nothing was", x.tear(), 0);
        due("38: NONE", x.undo(), NONE);
        due("39: all else stays", x.count(0), 5);
        x.image();
        due("39: kept again", x.tear(), 1);
    }

    private static void notKept() {
        NextButOne x = full();
        x.feed(0x6161, 2);
        x.sheet(0, 8, 3);
        x.image();
        x.feed('l', 1);
        x.sheet(0, 16, 2);
        x.write(0, 1, 300);
        x.untell();
        x.person(9, 9, 9);
        x.undo();
        due("37: THE TAPE is not kept", x.count(4), 3);
        due("37: sheets are not kept", x.write(0, 1, 0), 300);
        due("41: undo takes no finding back", x.status(-1), 1);
        NextButOne y = new NextButOne();
        y.image();
        y.feed('a', 1);
        y.text();
        y.person(0, 30, 0);
        y.person(0, 30, 0);
        due("38: nobody", y.undo(), 0);
        due("38: no TEXT", y.untell(), 0);
        due("38: nobody there", y.of(0, 0), BEYOND);
        y.person(3, 40, 2);
        due("38: a new one is new", y.of(0, 4) + y.of(0, 5) + y.of(0, 3), 0);
    }

    private static void newOnesAreNew() {
        NextButOne x = new NextButOne();
        x.image();
        x.person(0, 99, 1);
        x.person(0, 99, 1);
        x.set(0, 3, 2);
        x.likes(0, 1, 5);
        x.line(0, 0);
        x.come();
        x.rule(5, 20);
        x.years(1);
        x.undo();
        x.person(0, 30, 0);
        x.person(0, 30, 0);
        due("38: KIN", x.of(0, 3), 0);
        due("38: RULED", x.of(0, 4), 0);
        due("38: DEAD", x.of(0, 5), 0);
        due("38: LIKES", x.likes(0, 1, 0), 0);
    }

    private static void count() {
        NextButOne x = full();
        due("40: PEOPLE", x.count(0), 4);
        due("40: alive", x.count(1), 4);
        due("40: named", x.count(2), 2);
        due("40: RULED", x.count(3), 1);
        due("40: bytes", x.count(4), 0);
        x.feed(0, 4);
        due("40: bytes", x.count(4), 4);
        x.seed(-1000000001);
        due("40: z", x.count(5), -1000000001);
        due("40: no finding", x.status(-1), 0);
        due("40: 6", x.count(6), BEYOND);
        due("40: -1", x.count(-1), BEYOND);
        x.line(0, -1);
        due("40: named", x.count(2), 1);
        x.set(3, 1, 99);
        x.rule(5, 20);
        x.years(1);
        due("40: alive", x.count(1), 3);
        due("40: PEOPLE, the DEAD too", x.count(0), 4);
    }

    private static void status() {
        NextButOne x = new NextButOne();
        for (int which = -1; which < 7; which++) {
            due("41: none of " + which, x.status(which), 0);
        }
        due("41: BEYOND", x.person(-1, 0, 0), BEYOND);
        for (int i = 0; i < 20; i++) {
            x.feed(0, 4);
        }
        x.feed(0, 1);
        x.feed(0, 1);
        due("41: FULL", x.feed(0, 1), FULL);
        x.person(0, 99, 0);
        for (int i = 0; i < 3; i++) {
            due("41: KIND", x.as(0, 1), KIND);
        }
        x.rule(5, 20);
        x.years(1);
        for (int i = 0; i < 4; i++) {
            due("41: NONE", x.vote(), NONE);
        }
        for (int i = 0; i < 5; i++) {
            due("41: STATE", x.sit(0), STATE);
        }
        for (int i = 0; i < 6; i++) {
            due("41: MISSING", x.read(0), MISSING);
        }
        for (int i = 0; i < 7; i++) {
            due("41: SIZE", x.sheet(0, 8, -1), SIZE);
        }
        int[] found = {1, 3, 3, 4, 5, 6, 7};
        for (int which = 0; which < 7; which++) {
            due("41: of " + which, x.status(which), found[which]);
        }
        due("41: all", x.status(-1), 29);
        due("41: 7", x.status(7), BEYOND);
        due("41: counted from then on", x.status(0), 2);
        due("41: -2", x.status(-2), BEYOND);
        due("41: all from then on", x.status(-1), 31);
    }

    /** All that section 1 tells, at its greatest: ten PEOPLE, four places, a TEXT of 80 bytes. */
    private static void imageOfMuch() {
        NextButOne x = namers(10);
        stand(x, 9, 8, 7, 6);
        x.sit(5);
        tell(x, "-1" + "-1".repeat(39));
        x.likes(9, 8, 9);
        x.likes(0, 1, -9);
        x.worth(3, 3, -99);
        x.set(9, 3, 1023);
        x.seed(Integer.MIN_VALUE);
        due("37: 1", x.image(), 1);
        x.rule(0, 1);
        x.sit(-1);
        tell(x, "1");
        x.likes(9, 8, 0);
        x.likes(0, 1, 0);
        x.worth(3, 3, 0);
        x.set(9, 3, 0);
        x.seed(5);
        due("38: ten", x.undo(), 10);
        line("38: THE LINE", x, 9, 8, 7, 6);
        due("38: SITS", x.now(0), 5);
        due("38: the TEXT", x.gives(0, 1), -40);
        due("38: LIKES", x.likes(9, 8, 0), 9);
        due("38: LIKES -9", x.likes(0, 1, 0), -9);
        due("38: WORTH", x.worth(3, 3, 0), -99);
        due("38: KIN", x.of(9, 3), 1023);
        due("38: z", x.count(5), Integer.MIN_VALUE);
        due("2: still FULL", x.person(0, 20, 0), FULL);
    }

    private static int traitOf(int one, int what, int turn) {
        int[] traits = {(one + turn) % 7, 20 + one * 3 + turn, (one + turn) % 4, (one * 97 + turn * 31) % 1024};
        return traits[what];
    }

    private static void setTraits(NextButOne x, int turn) {
        for (int one = 0; one < 10; one++) {
            for (int what = 0; what < 4; what++) {
                x.set(one, what, traitOf(one, what, turn));
            }
        }
        for (int i = 0; i < 90; i++) {
            x.likes(i / 9, (i / 9 + 1 + i % 9) % 10, (i + turn * 5) % 19 - 9);
        }
        for (int i = 0; i < 16; i++) {
            x.worth(i / 4, i % 4, i * 11 - 80 + turn);
        }
    }

    /** Each trait of each of ten, each LIKES and WORTH. */
    private static void imageOfEach() {
        NextButOne x = namers(10);
        setTraits(x, 1);
        x.image();
        setTraits(x, 2);
        due("38: ten", x.undo(), 10);
        for (int one = 0; one < 10; one++) {
            for (int what = 0; what < 4; what++) {
                due("38: " + what + " of " + one, x.of(one, what), traitOf(one, what, 1));
            }
        }
        for (int i = 0; i < 90; i++) {
            due("38: LIKES " + i, x.likes(i / 9, (i / 9 + 1 + i % 9) % 10, 0), (i + 5) % 19 - 9);
        }
        for (int i = 0; i < 16; i++) {
            due("38: WORTH " + i, x.worth(i / 4, i % 4, 0), i * 11 - 80 + 1);
        }
    }

    /** RULED and DEAD of each of ten. */
    private static void imageOfTheDead() {
        NextButOne x = namers(10);
        x.rule(5, 20);
        stand(x, 9, 0);
        x.set(8, 1, 99);
        x.come();
        x.come();
        x.years(1);
        x.image();
        for (int i = 0; i < 9; i++) {
            x.come();
        }
        x.set(9, 1, 99);
        x.set(7, 1, 99);
        x.years(1);
        due("38: ten", x.undo(), 10);
        for (int one = 0; one < 10; one++) {
            due("38: RULED of " + one, x.of(one, 4), one == 9 || one == 0 ? 1 : 0);
            due("38: DEAD, " + one, x.of(one, 5), one == 8 ? 1 : 0);
        }
    }

    /** What is kept doesn't change by what comes later, and stays when it has been taken. */
    private static void imageStays() {
        NextButOne x = namers(2);
        x.image();
        for (int times = 0; times < 3; times++) {
            due("38: one more", x.person(0, 20, 0), 2);
            x.likes(0, 1, 7);
            due("38: two", x.undo(), 2);
            due("38: LIKES 0", x.likes(0, 1, 3), 0);
        }
        due("38: at once again", x.undo(), 2);
        due("39: something was", x.tear(), 1);
        due("38: NONE", x.undo(), NONE);
        due("38: all stays", x.count(0), 2);
        due("39: nothing was", x.tear(), 0);
        due("37: again", x.image(), 1);
        due("38: again", x.undo(), 2);
    }

    private static void imageOfNothing() {
        NextButOne x = new NextButOne();
        due("39: nothing was", x.tear(), 0);
        due("38: NONE", x.undo(), NONE);
        due("37: of nobody", x.image(), 1);
        due("38: of nobody", x.undo(), 0);
        due("39: something was", x.tear(), 1);
    }

    private static void countAtTheEdges() {
        NextButOne x = new NextButOne();
        int[] first = {0, 0, 0, 0, 0, 1};
        for (int what = 0; what < 6; what++) {
            due("40: at first, " + what, x.count(what), first[what]);
        }
        for (int one = 0; one < 10; one++) {
            x.person(0, one == 0 ? 99 : 20, 0);
        }
        x.rule(5, 20);
        x.years(1);
        stand(x, 1, 2, 3, 4);
        feed(x, "l".repeat(80));
        x.seed(Integer.MAX_VALUE);
        int[] full = {10, 9, 4, 0, 80, Integer.MAX_VALUE};
        for (int what = 0; what < 6; what++) {
            due("40: full, " + what, x.count(what), full[what]);
        }
        for (int times = 1; times <= 30; times++) {
            x.come();
            due("40: RULED of all", x.count(3), times);
        }
        int one = 0;
        for (int p = 0; p < 10; p++) {
            one += x.of(p, 4);
        }
        due("40: RULED of each", one, 30);
        x.set(1, 1, 99);
        x.years(1);
        due("40: RULED of the DEAD, too", x.count(3) - x.count(0), 20);
        for (int z : new int[] {BEYOND, SIZE, Integer.MIN_VALUE}) {
            x.seed(z);
            due("40: z is any number", x.count(5), z);
        }
        due("40: that is no finding", x.status(-1), 0);
    }

    /** An object is used for 512 calls: the last of them is as good as the first. */
    private static void calls512() {
        NextButOne x = new NextButOne();
        for (int call = 1; call <= 511; call++) {
            due("41: a finding", x.status(7), BEYOND);
        }
        due("41: all of 511", x.status(-1), 511);
        NextButOne y = namers(3);
        y.rule(2, 1);
        y.line(0, 0);
        for (int call = 6; call <= 511; call++) {
            y.come();
        }
        due("40: RULED by the call 512", y.count(3), 506);
    }

    /** A finding that an act answers is counted, what only looks like one isn't. */
    private static void whatLooksLikeOne() {
        NextButOne x = namers(2);
        x.sheet(0, 64, 1);
        for (int finding = BEYOND; finding >= SIZE; finding--) {
            x.seed(finding);
            due("15: z", x.seed(1), finding);
            x.write(0, 0, finding);
            due("33: a number", x.write(0, 0, 0), finding);
        }
        tell(x, "-(9999*9999*10+9999*20+11)");
        due("30: what THE TEXT gives", x.gives(0, 1), BEYOND);
        tell(x, "l+");
        due("41: none", x.status(-1), 0);
    }

    private static void undoTakesNoneBack() {
        NextButOne x = new NextButOne();
        x.image();
        x.person(9, 9, 9);
        x.as(0, 0);
        x.vote();
        x.undo();
        due("41: BEYOND", x.status(0), 2);
        due("41: NONE", x.status(3), 1);
        due("41: all", x.status(-1), 3);
        x.tear();
        x.undo();
        due("41: one more", x.status(3), 2);
    }

    public static void main(String[] args) {
        undo();
        latest();
        notKept();
        newOnesAreNew();
        count();
        status();
        imageOfMuch();
        imageOfEach();
        imageOfTheDead();
        imageStays();
        imageOfNothing();
        countAtTheEdges();
        calls512();
        whatLooksLikeOne();
        undoTakesNoneBack();
        end();
    }
}
