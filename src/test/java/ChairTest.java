/** Promises 9 to 16, and how each KIND names. */
public final class ChairTest extends Check {
    private static void sit() {
        NextButOne x = people(0, 0, 0);
        due("9: nobody did", x.sit(1), -1);
        due("9: 1 did", x.sit(2), 1);
        due("9: sits", x.now(0), 2);
        due("9: RULED is not more", x.of(2, 4), 0);
        x.years(2);
        due("9: REIGN", x.now(1), 2);
        due("9: the same again", x.sit(2), 2);
        due("9: REIGN is 0", x.now(1), 0);
        due("9: nobody names by sitting", x.count(2), 0);
        x.line(0, 0);
        due("9: in THE LINE", x.sit(0), STATE);
        due("9: 3", x.sit(3), BEYOND);
        due("9: -2", x.sit(-2), BEYOND);
        due("9: stays", x.now(0), 2);
        due("9: nobody", x.sit(-1), 2);
        due("9: nobody again", x.sit(-1), -1);
        due("9: DEAD", withOneDead().sit(0), STATE);
    }

    private static void lineAct() {
        NextButOne x = people(0, 0, 0, 0);
        due("10: nobody was", x.line(1, 2), -1);
        due("10: 2 was", x.line(1, 3), 2);
        due("10: also there", x.line(1, 3), STATE);
        due("10: already", x.line(0, 3), STATE);
        due("10: place -1", x.line(-1, 0), BEYOND);
        due("10: place 2", x.line(2, 0), BEYOND);
        due("10: one 4", x.line(0, 4), BEYOND);
        due("10: one -2", x.line(0, -2), BEYOND);
        due("10: place ahead of STATE", x.line(2, 3), BEYOND);
        x.sit(0);
        due("10: SITS", x.line(0, 0), STATE);
        x.rule(2, 1);
        due("10: SITS, AGAIN", x.line(0, 0), -1);
        due("10: nobody", x.line(0, -1), 0);
        due("10: nobody was there", x.line(0, -1), -1);
        due("10: DEAD", withOneDead().line(0, 0), STATE);
        x.rule(0, 4);
        due("10: place 3", x.line(3, 1), -1);
    }

    private static void may() {
        NextButOne x = people(0, 0, 0, 0, 0);
        due("11: all others", x.may(1), 29);
        x.sit(0);
        x.line(0, 4);
        due("11: who doesn't SIT nor stand in THE LINE", x.may(1), 12);
        due("11: who SITS", x.may(0), 14);
        due("11: one in THE LINE", x.may(4), 14);
        x.rule(2, 1);
        due("11: oneself", x.may(0), 15);
        due("11: not the other who SITS", x.may(1), 12);
        x.line(1, 0);
        due("11: not oneself in THE LINE", x.may(0), 14);
        x.line(1, -1);
        x.set(0, 3, 1 + 2 + 8);
        due("11: KIN", x.may(0), 5);
        due("11: KIN of the one who names alone", x.may(1), 12);
        x.rule(3, 1);
        due("11: KINS", x.may(0), 15);
        due("11: 5", x.may(5), BEYOND);
        due("11: -1", x.may(-1), BEYOND);
        NextButOne y = withOneDead();
        due("11: DEAD", y.may(0), STATE);
        due("11: not one who is DEAD", y.may(1), 4);
    }

    private static void namers() {
        NextButOne x = people(0, 1, 2, 3, 4, 5, 0, 0, 0);
        due("NAMER without liking: the least", x.of(0, 7), 1);
        x.likes(0, 8, 2);
        x.likes(0, 7, 2);
        due("NAMER", x.of(0, 7), 7);
        x.likes(1, 6, 4);
        due("FRIEND without any", x.of(1, 7), 6);
        x.likes(2, 6, -1);
        x.likes(2, 8, 1);
        due("SPITE without any", x.of(2, 7), 8);
        x.line(1, 7);
        x.likes(7, 0, -2);
        x.likes(7, 4, -5);
        x.likes(7, 5, 5);
        x.likes(7, 6, 5);
        due("FRIEND", x.of(1, 7), 5);
        due("SPITE", x.of(2, 7), 4);
        x.line(0, 3);
        x.likes(3, 8, 1);
        x.likes(3, 1, -1);
        due("FRIEND of the first", x.of(1, 7), 8);
        due("SPITE by the first", x.of(2, 7), 1);
        due("FOOL", x.of(3, 7), 8);
        x.set(2, 1, 90);
        x.set(5, 1, 90);
        due("FOOL of like ones", x.of(3, 7), 2);
        due("FOOL not oneself", x.may(3), 0b101110111);
        x.likes(4, 1, 9);
        due("PACT of the own SORT", x.of(4, 7), 0);
        x.likes(4, 8, 1);
        due("PACT by LIKES", x.of(4, 7), 8);
        x.set(4, 3, 1 + 256);
        due("PACT without own", x.of(4, 7), 1);
        due("TOLD without TEXT", x.of(5, 7), 0);
        x.feed('-' << 8 | 'a', 2);
        x.text();
        due("TOLD: the youngest", x.of(5, 7), 0);
        x.set(6, 1, 21);
        due("TOLD", x.of(5, 7), 6);
    }

    private static void follows() {
        NextButOne x = people(6, 0, 0, 0);
        for (int s = 0; s < 4; s++) {
            x.worth(s, 0, new int[] {1, 10, -50, 25}[s]);
        }
        x.rule(0, 1);
        x.sit(0);
        // AHEAD 1: named, 0 (who is liked by all as the least), then whom 0 names as NAMER: 1
        due("12: 0 names 1", x.follows(0, 1), 10 + 1 + 10);
        due("12: 0 names 2", x.follows(0, 2), -50 + 1 + 10);
        due("12: 0 names 3", x.follows(0, 3), 25 + 1 + 10);
        due("BEST", x.of(0, 7), 3);
        due("12: WORTH is for the one who names", x.follows(1, 2), 0);
        due("12: not oneself", x.follows(0, 0), STATE);
        due("12: not who SITS", x.follows(1, 0), STATE);
        due("12: one 4", x.follows(4, 1), BEYOND);
        due("12: other 4", x.follows(1, 4), BEYOND);
        due("12: -1", x.follows(-1, 1), BEYOND);
        due("12: other -1", x.follows(1, -1), BEYOND);
        x.line(0, 3);
        due("12: in THE LINE", x.follows(0, 3), STATE);
        due("12: who was isn't any more", x.follows(0, 1), 10 + 1 + 10);
        due("12: it was a trial", x.now(2), 3);
        due("12: a trial", x.count(3), 0);
        x.rule(2, 1);
        due("12: oneself", x.follows(0, 0), 1 + 1 + 1);
        NextButOne y = withOneDead();
        due("12: DEAD", y.follows(0, 1), STATE);
        due("12: a DEAD one", y.follows(1, 0), STATE);
        due("12: BEYOND ahead of STATE", y.follows(0, 3), BEYOND);
    }

    private static void followsAhead() {
        NextButOne x = people(6, 0, 0, 0, 0);
        x.worth(0, 0, 1);
        x.worth(1, 0, 10);
        x.worth(2, 0, 30);
        x.worth(3, 0, 70);
        x.line(0, 1);
        x.line(1, 2);
        // AHEAD 2, so 4 come: 1 (names 0), 3 (names 1), 0 (names 2), 1
        due("12: AHEAD and 2 times", x.follows(0, 3), 10 + 70 + 1 + 10);
    }

    private static void come() {
        NextButOne x = people(0, 3, 0, 0);
        due("13: nobody", x.come(), -1);
        x.sit(0);
        due("13: nobody follows", x.come(), -1);
        due("13: who SITS doesn't", x.now(0), -1);
        x.sit(0);
        x.years(3);
        x.line(0, 1);
        x.line(1, 2);
        due("13: the first comes", x.come(), 1);
        due("13: SITS", x.now(0), 1);
        due("13: REIGN", x.now(1), 0);
        due("13: RULED", x.of(1, 4), 1);
        line("13: moved up, and the FOOL names the oldest", x, 2, 3);
        due("13: the next", x.come(), 2);
        line("13: NAMER", x, 3, 0);
    }

    private static void gaps() {
        NextButOne x = people(0, 0, 0, 0, 0);
        x.rule(0, 4);
        x.line(2, 3);
        x.line(3, 4);
        x.image();
        due("13: GAP 0 passes over", x.come(), 3);
        line("13: GAP 0", x, 4, -1, -1, 0);
        x.undo();
        x.rule(4, 1);
        due("13: GAP 1, nobody", x.come(), -1);
        line("13: GAP 1, nobody names", x, -1, 3, 4, -1);
        due("13: GAP 1, nobody", x.come(), -1);
        due("13: GAP 1", x.come(), 3);
        line("13: GAP 1, for each place", x, 4, 0, 1, 2);
        x.undo();
        x.rule(4, 2);
        due("13: GAP 2, nobody", x.come(), -1);
        x.come();
        due("13: GAP 2", x.come(), 3);
        line("13: GAP 2, the last alone", x, 4, -1, -1, 0);
        x.undo();
        x.line(0, 2);
        due("13: none passed over", x.come(), 2);
        line("13: none passed over", x, -1, 3, 4, 0);
    }

    private static void gapOneByOne() {
        NextButOne x = people(1, 0, 0, 0, 0);
        x.rule(0, 3);
        x.rule(4, 1);
        x.line(0, 0);
        x.likes(0, 3, 1);
        x.likes(3, 4, 1);
        x.likes(3, 2, -1);
        x.come();
        // no one is named: as NAMER 3; then whom 3 LIKES: 4; then of 1 and 2 the one not disliked
        line("13: one by one", x, 3, 4, 1);
    }

    private static void none() {
        NextButOne x = people(0, 0);
        x.line(0, 0);
        x.line(1, 1);
        x.come();
        line("13: none to name", x, 1, -1);
        x.rule(2, 1);
        x.come();
        line("13: the one who was", x, -1, 0);
        x.line(1, -1);
        x.set(1, 3, 1);
        due("13: WOULD name oneself", x.of(1, 7), 1);
    }

    private static void years() {
        NextButOne x = people(0, 0, 0);
        x.line(0, 0);
        x.rule(5, 0);
        due("14: 0", x.years(0), BEYOND);
        due("14: -1", x.years(-1), BEYOND);
        due("14: 51", x.years(51), BEYOND);
        due("14: AGE unchanged", x.of(0, 1), 30);
        due("14: one comes at once", x.years(1), 1);
        due("14: AGE", x.of(2, 1), 33);
        due("14: REIGN", x.now(1), 0);
        due("14: six more", x.years(6), 0);
        due("14: REIGN 6", x.now(1), 6);
        due("14: TERM", x.years(1), 1);
        due("14: the next", x.now(0), 1);
        due("14: fifty", x.years(50), 7);
        due("14: z", x.count(5), draws(58 * 3));
        x.years(50);
        due("14: AGE is 99 at most", x.of(0, 1), 99);
    }

    private static int draws(int n) {
        int z = 1;
        for (int i = 0; i < n; i++) {
            z = z * 1103515245 + 12345;
        }
        return z;
    }

    private static void deaths() {
        int z = 77;
        NextButOne x = new NextButOne();
        int[] ages = {39, 40, 41, 60, 95, 99};
        boolean[] dead = new boolean[6];
        for (int age : ages) {
            x.person(0, age, 0);
        }
        x.rule(5, 9);
        x.seed(z);
        for (int year = 0; year < 30; year++) {
            x.years(1);
            for (int i = 0; i < 6; i++) {
                if (!dead[i]) {
                    ages[i] = Math.min(99, ages[i] + 1);
                    z = z * 1103515245 + 12345;
                    dead[i] = ages[i] > 40 && (z >>> 8) % 1000 < 9 * (ages[i] - 40);
                }
                due("14: DEAD " + i + " in " + year, x.of(i, 5), dead[i] ? 1 : 0);
                due("14: AGE " + i + " in " + year, x.of(i, 1), ages[i]);
            }
        }
        due("14: z goes on", x.count(5), z);
    }

    private static void deathInTheChair() {
        NextButOne x = new NextButOne();
        x.person(0, 99, 0);
        x.person(0, 98, 0);
        x.person(0, 25, 0);
        x.rule(5, 20);
        x.sit(0);
        x.line(0, 1);
        x.line(1, 2);
        due("14: the DEAD are passed over", x.years(1), 1);
        due("14: sits", x.now(0), 2);
        due("14: 0 is DEAD", x.of(0, 5), 1);
        due("14: 1 is DEAD", x.of(1, 5), 1);
        due("14: 1 isn't in THE LINE", x.of(1, 6), -1);
        due("14: none named", x.count(2), 0);
        due("14: 1 didn't rule", x.of(1, 4), 0);
    }

    private static void seedAndNow() {
        NextButOne x = people(0, 0);
        due("15: 1 at first", x.seed(-5), 1);
        due("15: it was", x.seed(Integer.MIN_VALUE), -5);
        due("15: z", x.count(5), Integer.MIN_VALUE);
        due("15: no finding", x.status(-1), 0);
        due("16: nobody", x.now(0), -1);
        x.sit(1);
        x.line(1, 0);
        due("16: SITS", x.now(0), 1);
        x.years(1);
        due("16: REIGN", x.now(1), 1);
        due("16: place 0", x.now(2), -1);
        due("16: place 1", x.now(3), 0);
        due("16: place 2", x.now(4), BEYOND);
        due("16: -1", x.now(-1), BEYOND);
        due("16: the least", x.now(Integer.MIN_VALUE), BEYOND);
        due("16: the most", x.now(Integer.MAX_VALUE), BEYOND);
        x.rule(0, 4);
        due("16: place 3", x.now(5), -1);
        due("16: place 4", x.now(6), BEYOND);
    }

    public static void main(String[] args) {
        sit();
        lineAct();
        may();
        namers();
        follows();
        followsAhead();
        come();
        gaps();
        gapOneByOne();
        none();
        years();
        deaths();
        deathInTheChair();
        seedAndNow();
        end();
    }
}
