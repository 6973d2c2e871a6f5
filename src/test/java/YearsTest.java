/** A YEAR at its edges: AGES, REIGN, draws, deaths, TERM; and odds, which goes by YEARS. */
public final class YearsTest extends Check {
    private static final int FACTOR = 1103515245;

    /** The z from which a draw makes this one. */
    private static int zAhead(int z) {
        int inverse = FACTOR;
        for (int i = 0; i < 5; i++) {
            inverse *= 2 - FACTOR * inverse;
        }
        return (z - 12345) * inverse;
    }

    private static void zGoesRound() {
        int[] seeds = {1, 0, -1, Integer.MAX_VALUE, Integer.MIN_VALUE, 123456789};
        for (int z : seeds) {
            NextButOne x = namers(1);
            x.rule(5, 0);
            x.seed(z);
            x.years(1);
            due("z from " + z, x.count(5), drawn(z, 1));
            x.years(50);
            due("z from " + z + ", 51 draws", x.count(5), drawn(z, 51));
        }
        due("z from the greatest int", drawn(Integer.MAX_VALUE, 1), FACTOR * Integer.MAX_VALUE + 12345);
        due("the draw before", drawn(zAhead(-77), 1), -77);
    }

    private static void whoDraws() {
        NextButOne x = new NextButOne();
        x.years(50);
        due("nobody draws", x.count(5), 1);
        x.person(0, 99, 0);
        x.person(0, 20, 0);
        x.person(0, 20, 0);
        x.rule(5, 20);
        x.years(1);
        due("each who is alive draws, the young too", x.count(5), drawn(1, 3));
        due("one is DEAD", x.count(1), 2);
        x.years(2);
        due("a DEAD one draws no more", x.count(5), drawn(1, 3 + 4));
        x.rule(5, 0);
        x.years(1);
        due("all draw, DEATH being 0", x.count(5), drawn(1, 3 + 4 + 2));
    }

    /** One of an AGE (before the YEAR) whose draw leaves a rest; high ones are negative ints. */
    private static int isDead(int age, int death, int rest, boolean high) {
        NextButOne x = new NextButOne();
        x.person(0, age, 0);
        x.rule(5, death);
        int draw = rest + (high ? 16000000 : 3000);
        x.seed(zAhead(draw << 8 | 200));
        x.years(1);
        return x.of(0, 5);
    }

    /** Below DEATH times (AGE less 40) one is DEAD, not at it. */
    private static void lots() {
        int[][] cases = {{40, 1, 1}, {40, 20, 20}, {41, 1, 2}, {41, 7, 14}, {98, 1, 59}, {99, 1, 59}, {97, 1, 58},
            {60, 2, 42}, {99, 16, 944}, {88, 20, 980}, {89, 20, 1000}, {98, 20, 1180}, {99, 20, 1180}};
        for (int[] c : cases) {
            for (int rest : new int[] {0, c[2] - 1, c[2], 999}) {
                for (boolean high : new boolean[] {false, true}) {
                    String what = "AGE " + c[0] + ", DEATH " + c[1] + ", rest " + rest + (high ? ", high" : "");
                    due(what, rest > 999 ? 1 : isDead(c[0], c[1], rest, high), rest < c[2] || rest > 999 ? 1 : 0);
                }
            }
        }
        for (int age : new int[] {20, 38, 39}) {
            due("AGE " + age + " and one isn't above 40", isDead(age, 20, 0, false), 0);
        }
        due("DEATH 0", isDead(99, 0, 0, false), 0);
    }

    private static void ages() {
        NextButOne x = new NextButOne();
        int[] ages = {20, 97, 98, 99};
        for (int age : ages) {
            x.person(0, age, 0);
        }
        x.rule(5, 0);
        for (int year = 1; year <= 3; year++) {
            x.years(1);
            for (int one = 0; one < 4; one++) {
                due("AGE of " + one + " in " + year, x.of(one, 1), Math.min(99, ages[one] + year));
            }
        }
        x.years(50);
        x.years(50);
        due("all are 99", x.of(0, 1) + x.of(1, 1) + x.of(2, 1) + x.of(3, 1), 4 * 99);
    }

    private static void agesOfTheDead() {
        NextButOne x = withOneDead();
        x.set(0, 1, 50);
        x.years(3);
        due("AGE of a DEAD one stays", x.of(0, 1), 50);
        due("AGE of one alive", x.of(1, 1), 33);
        due("and it is still DEAD", x.of(0, 5), 1);
    }

    private static void terms() {
        for (int term : new int[] {1, 2, 7, 39, 40}) {
            NextButOne x = namers(5);
            x.rule(5, 0);
            x.rule(1, term);
            x.sit(0);
            x.line(0, 1);
            if (term > 1) {
                due("14: less than TERM " + term, x.years(term - 1), 0);
                due("14: still SITS", x.now(0), 0);
            }
            due("14: REIGN ahead of TERM " + term, x.now(1), term - 1);
            due("14: REIGN is TERM " + term, x.years(1), 1);
            due("14: the next", x.now(0), 1);
            due("14: REIGN is 0", x.now(1), 0);
        }
    }

    private static void reignAboveTerm() {
        NextButOne x = namers(5);
        x.sit(0);
        x.line(0, 1);
        x.years(6);
        x.rule(1, 3);
        due("14: a RULE alone moves nobody", x.now(0), 0);
        due("14: REIGN is more than TERM", x.years(1), 1);
        due("14: the next", x.now(0), 1);
    }

    private static void termWithoutNext() {
        NextButOne x = namers(3);
        x.rule(1, 2);
        x.sit(0);
        due("14: nobody came", x.years(2), 0);
        due("14: who SAT doesn't", x.now(0), -1);
        due("14: REIGN", x.now(1), 0);
        due("14: nobody comes", x.years(50), 0);
        due("14: REIGN of nobody", x.now(1), 0);
    }

    /** Nobody SITS: each YEAR the next is TO COME. */
    private static void nobodySits() {
        NextButOne x = namers(4);
        x.rule(4, 2);
        stand(x, -1, -1, 3);
        due("14: place 0", x.years(1), 0);
        due("14: place 1", x.years(1), 0);
        line("14: moved up", x, 3, -1, -1);
        due("14: place 2", x.years(1), 1);
        due("14: SITS", x.now(0), 3);
        due("14: REIGN", x.now(1), 0);
        x.years(1);
        due("14: one YEAR", x.now(1), 1);
    }

    private static void howManyCame() {
        NextButOne x = namers(4);
        x.rule(5, 0);
        x.rule(1, 1);
        x.line(0, 0);
        due("14: one each YEAR", x.years(50), 50);
        due("14: RULED", x.count(3), 50);
        NextButOne y = namers(4);
        y.rule(5, 0);
        y.line(0, 0);
        due("14: one in one YEAR", y.years(1), 1);
        due("14: TERM 7, 50 YEARS", y.years(50), 7);
    }

    /** The places of the DEAD are for nobody, those behind stay where they are. */
    private static void deadInTheLine() {
        NextButOne x = namers(6);
        x.rule(5, 20);
        stand(x, 1, 2, 3, 4);
        x.sit(0);
        x.set(2, 1, 99);
        x.set(4, 1, 99);
        due("14: nobody came", x.years(1), 0);
        line("14: for nobody", x, 1, -1, 3, -1);
        due("14: two are named", x.count(2), 2);
        due("14: 0 SITS on", x.now(0), 0);
        due("14: REIGN goes on", x.now(1), 1);
        due("14: DEAD, not in THE LINE", x.of(2, 6), -1);
        x.set(1, 1, 99);
        x.set(3, 1, 99);
        x.years(1);
        line("14: all are for nobody", x, -1, -1, -1, -1);
    }

    private static void deadInTheChair() {
        for (int gap = 0; gap <= 2; gap++) {
            NextButOne x = namers(5);
            x.rule(5, 20);
            x.rule(4, gap);
            stand(x, 1, 2, 3);
            x.sit(0);
            x.years(3);
            x.set(0, 1, 99);
            x.set(1, 1, 99);
            // by GAP 0 the place of 1 is passed over, else nobody comes in that YEAR
            due("14: who came, GAP " + gap, x.years(1), gap == 0 ? 1 : 0);
            due("14: who SITS, GAP " + gap, x.now(0), gap == 0 ? 2 : -1);
            due("14: REIGN, GAP " + gap, x.now(1), 0);
            due("14: a YEAR on, GAP " + gap, x.years(1), gap == 0 ? 0 : 1);
            due("14: 2 SITS, GAP " + gap, x.now(0), 2);
            due("14: the DEAD aren't named, GAP " + gap, x.of(0, 6) + x.of(1, 6), -2);
            due("14: 1 never RULED, GAP " + gap, x.of(1, 4), 0);
        }
    }

    private static void allDie() {
        NextButOne x = new NextButOne();
        for (int one = 0; one < 10; one++) {
            x.person(one % 7, 99, 0);
        }
        x.rule(5, 20);
        stand(x, 0, 1, 2, 3);
        x.sit(4);
        due("14: nobody is left", x.years(1), 0);
        due("14: none alive", x.count(1), 0);
        due("14: none named", x.count(2), 0);
        due("14: nobody SITS", x.now(0), -1);
        due("14: ten draws", x.count(5), drawn(1, 10));
        due("14: no more", x.years(50), 0);
        due("14: no draws", x.count(5), drawn(1, 10));
        due("23: nobody is alive", x.vote(), NONE);
        due("25: nobody is alive", x.pact(1), NONE);
        due("26: nobody is alive", x.odds(4, 40), 0);
        due("18: nobody is alive", x.ever(), 0);
        due("3: a DEAD one WOULD name nobody", x.of(4, 7), -1);
    }

    /** z goes on from the one trial to the next, the AGES and the DEAD don't. */
    private static void oddsByTrials() {
        NextButOne x = new NextButOne();
        x.person(0, 60, 0);
        x.person(0, 20, 0);
        x.person(0, 20, 0);
        x.rule(5, 20);
        stand(x, 0, 1);
        int z = 99;
        x.seed(z);
        int lives = 0;
        for (int trial = 1; trial <= 40; trial++) {
            z = drawn(z, 1);
            lives += (z >>> 8) % 1000 < 20 * 21 ? 0 : 1;
            z = drawn(z, 2);
            due("26: the old one, n " + trial, x.odds(0, trial), lives);
            due("26: the young one, n " + trial, x.odds(1, trial), trial - lives);
            due("26: one not in THE LINE, n " + trial, x.odds(2, trial), 0);
        }
        due("26: z stays", x.count(5), 99);
        due("26: none is DEAD", x.count(1), 3);
    }

    /** Who SITS now is counted only by coming again. */
    private static void oddsOfWhoSits() {
        NextButOne x = namers(2);
        x.rule(5, 0);
        x.rule(1, 3);
        x.sit(0);
        due("26: nobody comes", x.odds(0, 5), 0);
        x.rule(2, 1);
        x.line(0, 0);
        due("26: who SITS comes again", x.odds(0, 5), 5);
        due("26: the other doesn't", x.odds(1, 5), 0);
        due("26: a DEAD one never", withOneDead().odds(0, 40), 0);
    }

    public static void main(String[] args) {
        zGoesRound();
        whoDraws();
        lots();
        ages();
        agesOfTheDead();
        terms();
        reignAboveTerm();
        termWithoutNext();
        nobodySits();
        howManyCame();
        deadInTheLine();
        deadInTheChair();
        allDie();
        oddsByTrials();
        oddsOfWhoSits();
        end();
    }
}
