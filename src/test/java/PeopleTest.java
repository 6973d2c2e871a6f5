/** Promises 1 to 8. */
public final class PeopleTest extends Check {
    private static void newObject() {
        NextButOne x = new NextButOne();
        due("1: no PEOPLE", x.count(0), 0);
        due("1: none alive", x.count(1), 0);
        due("1: none named", x.count(2), 0);
        due("1: none RULED", x.count(3), 0);
        due("1: THE TAPE is empty", x.count(4), 0);
        due("1: z", x.count(5), 1);
        due("1: nobody SITS", x.now(0), -1);
        due("1: REIGN", x.now(1), 0);
        due("1: place 0", x.now(2), -1);
        due("1: place 1", x.now(3), -1);
        due("1: AHEAD is 2", x.now(4), BEYOND);
        due("1: no image", x.tear(), 0);
        due("1: no TEXT", x.untell(), 0);
        due("1: sheet 0 is MISSING", x.read(0), MISSING);
        due("1: sheet 3 is MISSING", x.read(3), MISSING);
        due("1: findings", x.status(-1), 3);
        int[] rules = {2, 7, 0, 0, 0, 2};
        for (int what = 0; what < 6; what++) {
            due("1: rule " + what, x.rule(what, 1), rules[what]);
        }
        for (int s = 0; s < 4; s++) {
            for (int t = 0; t < 4; t++) {
                due("1: worth", x.worth(s, t, 1), 0);
            }
        }
    }

    private static void person() {
        NextButOne x = new NextButOne();
        int[][] wrongs = {{-1, 30, 0}, {7, 30, 0}, {0, 19, 0}, {0, 100, 0}, {0, 30, -1}, {0, 30, 4},
            {Integer.MIN_VALUE, 30, 0}, {0, Integer.MAX_VALUE, 0}, {0, 30, Integer.MIN_VALUE}};
        for (int[] w : wrongs) {
            due("2: person wrong", x.person(w[0], w[1], w[2]), BEYOND);
        }
        due("2: none came", x.count(0), 0);
        due("2: first", x.person(0, 20, 0), 0);
        due("2: second", x.person(6, 99, 3), 1);
        for (int i = 2; i < 10; i++) {
            due("2: more", x.person(i % 7, 20 + i, i % 4), i);
        }
        due("2: BEYOND ahead of FULL", x.person(7, 30, 0), BEYOND);
        due("2: FULL", x.person(0, 30, 0), FULL);
        due("2: ten", x.count(0), 10);
        due("2: findings BEYOND", x.status(0), wrongs.length + 1);
        due("2: findings FULL", x.status(1), 1);
    }

    private static void of() {
        NextButOne x = new NextButOne();
        due("3: nobody there", x.of(0, 0), BEYOND);
        x.person(4, 33, 2);
        x.person(0, 44, 1);
        x.person(3, 21, 2);
        due("3: KIND", x.of(0, 0), 4);
        due("3: AGE", x.of(0, 1), 33);
        due("3: SORT", x.of(0, 2), 2);
        due("3: KIN", x.of(0, 3), 0);
        due("3: RULED", x.of(0, 4), 0);
        due("3: DEAD", x.of(0, 5), 0);
        due("3: place", x.of(0, 6), -1);
        due("3: PACT names the own SORT", x.of(0, 7), 2);
        due("3: what 8", x.of(0, 8), BEYOND);
        due("3: what -1", x.of(0, -1), BEYOND);
        due("3: one -1", x.of(-1, 0), BEYOND);
        due("3: one 3", x.of(3, 0), BEYOND);
        x.line(1, 0);
        due("3: place 1", x.of(0, 6), 1);
        x.come();
        due("3: RULED once", x.of(0, 4), 1);
        due("3: no place", x.of(0, 6), -1);
        due("3: named by 0", x.of(2, 6), 1);
    }

    private static void ofDead() {
        NextButOne x = new NextButOne();
        x.person(0, 99, 0);
        x.person(0, 20, 0);
        due("3: one would", x.of(0, 7), 1);
        x.rule(5, 20);
        x.years(1);
        due("3: DEAD", x.of(0, 5), 1);
        due("3: a DEAD one would likewise", x.of(0, 7), 1);
        due("3: nobody to name", x.of(1, 7), -1);
        due("3: AGE of a DEAD one stays", x.of(0, 1), 99);
        x.sit(1);
        due("3: a DEAD one, and the last one SITS", x.of(0, 7), -1);
        x.sit(-1);
        x.line(0, 1);
        due("3: a DEAD one, and the last one is in THE LINE", x.of(0, 7), -1);
    }

    /** 0 is DEAD, of SORT 2, LIKES 3 most; 1 is the first in THE LINE, LIKES 4 most and 5 least; 2 is the oldest. */
    private static NextButOne withDeadNamer() {
        NextButOne x = new NextButOne();
        x.person(0, 99, 2);
        x.rule(5, 20);
        x.years(1);
        int[] ages = {20, 39, 30, 31, 32, 33};
        int[] sorts = {0, 1, 1, 3, 2, 2};
        for (int i = 0; i < ages.length; i++) {
            x.person(0, ages[i], sorts[i]);
        }
        x.line(0, 1);
        x.likes(0, 3, 5);
        x.likes(0, 6, 4);
        x.likes(1, 4, 3);
        x.likes(1, 5, -3);
        x.worth(2, 2, 9);
        return x;
    }

    private static void ofDeadByKind() {
        NextButOne x = withDeadNamer();
        due("3: 0 is DEAD", x.of(0, 5), 1);
        int[] names = {3, 4, 5, 2, 6, 3, 5};
        for (int kind = 0; kind < names.length; kind++) {
            x.set(0, 0, kind);
            due("3: a DEAD one of KIND " + kind, x.of(0, 7), names[kind]);
        }
        x.set(0, 0, 5);
        x.feed('a' << 24 | '=' << 16 | '3' << 8 | '1', 4);
        due("3: a TEXT", x.text(), 1);
        due("3: a DEAD one who is TOLD", x.of(0, 7), 4);
        x.set(0, 0, 0);
        x.set(0, 3, 1 << 3);
        due("3: a DEAD one names no KIN", x.of(0, 7), 6);
        x.rule(3, 1);
        due("3: a DEAD one names KIN by KINS", x.of(0, 7), 3);
        due("3: no findings", x.status(-1), 0);
    }

    private static void set() {
        NextButOne x = new NextButOne();
        due("4: nobody there", x.set(0, 0, 0), BEYOND);
        x.person(1, 50, 3);
        int[][] ranges = {{0, 6, 1}, {20, 99, 50}, {0, 3, 3}, {0, 1023, 0}};
        for (int what = 0; what < 4; what++) {
            int[] r = ranges[what];
            due("4: too little " + what, x.set(0, what, r[0] - 1), BEYOND);
            due("4: too much " + what, x.set(0, what, r[1] + 1), BEYOND);
            due("4: unchanged " + what, x.of(0, what), r[2]);
            due("4: least " + what, x.set(0, what, r[0]), r[2]);
            due("4: most " + what, x.set(0, what, r[1]), r[0]);
            due("4: changed " + what, x.of(0, what), r[1]);
        }
        due("4: what -1", x.set(0, -1, 1), BEYOND);
        due("4: what 4", x.set(0, 4, 1), BEYOND);
        due("4: one 1", x.set(1, 0, 1), BEYOND);
        due("4: one -1", x.set(-1, 0, 1), BEYOND);
    }

    private static void as() {
        NextButOne x = new NextButOne();
        due("5: nobody there", x.as(0, 0), BEYOND);
        for (int kind = 0; kind < 7; kind++) {
            x.person(kind, 30, 0);
        }
        for (int one = 0; one < 7; one++) {
            for (int kind = 0; kind < 7; kind++) {
                boolean under = kind == one || kind == 0 || (one == 2 && kind == 1);
                due("5: " + one + " as " + kind, x.as(one, kind), under ? 0 : KIND);
            }
            due("5: kind -1", x.as(one, -1), BEYOND);
            due("5: kind 7", x.as(one, 7), BEYOND);
        }
        due("5: one 7", x.as(7, 0), BEYOND);
        due("5: one -1", x.as(-1, 0), BEYOND);
        x.line(0, 2);
        x.come();
        due("5: RULED", x.as(2, 1), 1);
        due("5: KIND still", x.as(2, 3), KIND);
    }

    private static void likes() {
        NextButOne x = new NextButOne();
        due("6: nobody there", x.likes(0, 1, 1), BEYOND);
        x.person(0, 30, 0);
        x.person(0, 31, 0);
        x.person(0, 32, 0);
        due("6: first", x.likes(0, 1, 9), 0);
        due("6: again", x.likes(0, 1, -9), 9);
        due("6: and again", x.likes(0, 1, 3), -9);
        due("6: not the other way", x.likes(1, 0, 1), 0);
        due("6: too much", x.likes(0, 1, 10), BEYOND);
        due("6: too little", x.likes(0, 1, -10), BEYOND);
        due("6: oneself", x.likes(2, 2, 1), BEYOND);
        due("6: no one", x.likes(3, 1, 1), BEYOND);
        due("6: no other", x.likes(1, 3, 1), BEYOND);
        due("6: -1", x.likes(-1, 1, 1), BEYOND);
        due("6: other -1", x.likes(1, -1, 1), BEYOND);
        due("6: unchanged", x.likes(0, 1, 0), 3);
    }

    private static void worth() {
        NextButOne x = new NextButOne();
        due("7: first", x.worth(3, 0, 99), 0);
        due("7: again", x.worth(3, 0, -99), 99);
        due("7: not the other way", x.worth(0, 3, 5), 0);
        due("7: too much", x.worth(3, 0, 100), BEYOND);
        due("7: too little", x.worth(3, 0, -100), BEYOND);
        due("7: sits 4", x.worth(4, 0, 1), BEYOND);
        due("7: sits -1", x.worth(-1, 0, 1), BEYOND);
        due("7: sort 4", x.worth(0, 4, 1), BEYOND);
        due("7: sort -1", x.worth(0, -1, 1), BEYOND);
        due("7: unchanged", x.worth(3, 0, 0), -99);
    }

    private static void rule() {
        NextButOne x = new NextButOne();
        int[] least = {1, 1, 0, 0, 0, 0};
        int[] most = {4, 40, 1, 1, 2, 20};
        int[] first = {2, 7, 0, 0, 0, 2};
        for (int what = 0; what < 6; what++) {
            due("8: too little " + what, x.rule(what, least[what] - 1), BEYOND);
            due("8: too much " + what, x.rule(what, most[what] + 1), BEYOND);
            due("8: least " + what, x.rule(what, least[what]), first[what]);
            due("8: most " + what, x.rule(what, most[what]), least[what]);
            due("8: it was most " + what, x.rule(what, first[what]), most[what]);
        }
        due("8: what -1", x.rule(-1, 1), BEYOND);
        due("8: what 6", x.rule(6, 1), BEYOND);
    }

    private static void ruleAhead() {
        NextButOne x = new NextButOne();
        for (int i = 0; i < 4; i++) {
            x.person(0, 30, 0);
        }
        x.rule(0, 4);
        for (int i = 0; i < 4; i++) {
            x.line(i, i);
        }
        x.rule(0, 2);
        due("8: two stay", x.count(2), 2);
        due("8: place of 2", x.of(2, 6), -1);
        x.rule(0, 3);
        due("8: place 0", x.now(2), 0);
        due("8: place 1", x.now(3), 1);
        due("8: a new place is for nobody", x.now(4), -1);
        due("8: place 3", x.now(5), BEYOND);
    }

    public static void main(String[] args) {
        newObject();
        person();
        of();
        ofDead();
        ofDeadByKind();
        set();
        as();
        likes();
        worth();
        rule();
        ruleAhead();
        end();
    }
}
