/** Promises 17 to 26. */
public final class AheadTest {
    private static final int BEYOND = -1000000001;
    private static final int NONE = -1000000004;
    private static final int STATE = -1000000005;
    private static int wrong = 0;

    private static void due(String call, long got, long want) {
        if (got != want) {
            wrong++;
            System.out.println(call + " answered " + got + ", due is " + want);
        }
    }

    private static NextButOne people(int... kinds) {
        NextButOne x = new NextButOne();
        for (int i = 0; i < kinds.length; i++) {
            x.person(kinds[i], 30 + i, i % 4);
        }
        return x;
    }

    private static void tell(NextButOne x, String text) {
        for (int i = 0; i < text.length(); i++) {
            x.feed(text.charAt(i), 1);
        }
        due("text " + text, x.text(), 1);
    }

    private static NextButOne tellers(String text) {
        NextButOne x = people(5, 5, 5, 5, 5, 5, 5, 5, 5, 5);
        tell(x, text);
        x.rule(0, 4);
        for (int i = 0; i < 4; i++) {
            x.line(i, i);
        }
        return x;
    }

    /** 3 names 0, 0 names 1, 1 names 0 or 2: from (3; 1 2) on 1, 2, 0, 1, 2 .. */
    private static NextButOne four() {
        NextButOne x = people(0, 0, 0, 0);
        x.sit(3);
        x.line(0, 1);
        x.line(1, 2);
        x.worth(0, 0, 1);
        x.worth(1, 0, 10);
        x.worth(2, 0, 99);
        return x;
    }

    private static void ahead() {
        NextButOne x = four();
        int[] who = {1, 2, 0, 1, 2, 0, 1};
        for (int i = 0; i < who.length; i++) {
            due("17: " + (i + 1), x.ahead(i + 1), who[i]);
        }
        due("17: 200", x.ahead(200), 2);
        due("17: 0", x.ahead(0), BEYOND);
        due("17: 201", x.ahead(201), BEYOND);
        due("17: -1", x.ahead(-1), BEYOND);
        due("17: it was a trial", x.now(0), 3);
        due("17: THE LINE stays", x.now(2) * 10 + x.now(3), 12);
        due("17: RULED stays", x.count(3), 0);
        due("17: AGE stays", x.of(0, 1), 30);
        due("17: z stays", x.count(5), 1);
        x.sit(-1);
        x.line(0, -1);
        x.line(1, -1);
        due("17: nobody", x.ahead(3), -1);
    }

    private static void ever() {
        NextButOne x = four();
        due("18: 0, 1 and 2", x.ever(), 7);
        due("19: till it was so first", x.turns(0), 1);
        due("19: till it is so again", x.turns(1), 3);
        due("19: 2", x.turns(2), BEYOND);
        due("19: -1", x.turns(-1), BEYOND);
        x.come();
        due("19: as it is now", x.turns(0), 0);
        due("18: a trial", x.count(3), 1);
        NextButOne y = new NextButOne();
        due("18: nobody", y.ever(), 0);
        due("19: nobody, first", y.turns(0), 0);
        due("19: nobody, again", y.turns(1), 1);
    }

    private static void nothingComesAgain() {
        NextButOne x = tellers("-r*22+(r*5790*a+a*4518+r*r*218)%49");
        due("18: NONE", x.ever(), NONE);
        due("19: NONE", x.turns(0), NONE);
        due("19: NONE, again", x.turns(1), NONE);
        due("19: BEYOND ahead of NONE", x.turns(2), BEYOND);
        NextButOne y = tellers("-r*54+(r*3957*a+a*9305+r*r*527)%100");
        due("18: 301 CHAIRS", y.ever(), NONE);
        y.come();
        due("19: 300 CHAIRS", y.turns(0), 228);
        due("19: 300 CHAIRS, again", y.turns(1), 72);
    }

    private static void ruledInTrials() {
        NextButOne x = people(5, 5, 5, 5, 5);
        tell(x, "-r");
        x.rule(0, 1);
        x.line(0, 0);
        // who has RULED least is named, in the trial too
        int[] who = {0, 1, 2, 3, 4, 0, 1};
        for (int i = 0; i < who.length; i++) {
            due("17: RULED goes on in a trial, " + i, x.ahead(i + 1), who[i]);
        }
    }

    private static void shareAndHas() {
        NextButOne x = four();
        due("20: SORT 1 in 1", x.share(1, 1), 1);
        due("20: SORT 1 in 7", x.share(1, 7), 3);
        due("20: SORT 0 in 200", x.share(0, 200), 66);
        due("20: SORT 3", x.share(3, 200), 0);
        due("20: sort 4", x.share(4, 1), BEYOND);
        due("20: sort -1", x.share(-1, 1), BEYOND);
        due("20: n 0", x.share(0, 0), BEYOND);
        due("20: n 201", x.share(0, 201), BEYOND);
        due("21: 1", x.has(0, 1), 10);
        due("21: 4", x.has(0, 4), 10 + 99 + 1 + 10);
        due("21: 200", x.has(0, 200), 66 * 110 + 10 + 99);
        due("21: another SORT", x.has(1, 200), 0);
        due("21: sort 4", x.has(4, 1), BEYOND);
        due("21: sort -1", x.has(-1, 1), BEYOND);
        due("21: n 0", x.has(0, 0), BEYOND);
        due("21: n 201", x.has(0, 201), BEYOND);
    }

    private static void but() {
        NextButOne x = four();
        due("22: as it is", x.but(2, 0, 7), x.has(0, 7));
        // AHEAD 1: 1 names 0, 0 names 1
        due("22: AHEAD 1", x.but(1, 0, 3), 10 + 1 + 10);
        // AHEAD 4: 1 comes from (1 2 - -) and names 0; 2 from (2 - - 0) names 1; 0 from (- - 0 1) names 2; 1 ..
        due("22: AHEAD 4", x.but(4, 0, 4), 10 + 99 + 1 + 10);
        due("22: k 0", x.but(0, 0, 1), BEYOND);
        due("22: k 5", x.but(5, 0, 1), BEYOND);
        due("22: sort 4", x.but(1, 4, 1), BEYOND);
        due("22: sort -1", x.but(1, -1, 1), BEYOND);
        due("22: n 0", x.but(1, 0, 0), BEYOND);
        due("22: n 201", x.but(1, 0, 201), BEYOND);
        due("22: AHEAD stays", x.rule(0, 2), 2);
        due("22: THE LINE stays", x.now(3), 2);
    }

    private static void vote() {
        NextButOne x = new NextButOne();
        due("23: NONE", x.vote(), NONE);
        x.person(0, 99, 0);
        x.person(0, 30, 0);
        x.person(0, 30, 0);
        x.person(0, 30, 0);
        due("23: of like ones the least", x.vote(), 0);
        x.likes(1, 0, -1);
        due("23: the next", x.vote(), 1);
        x.likes(0, 3, 9);
        x.likes(1, 2, 4);
        x.likes(3, 2, 4);
        due("23: most together", x.vote(), 3);
        x.rule(5, 20);
        x.years(1);
        due("23: LIKES of the DEAD don't count", x.vote(), 2);
        x.likes(1, 0, 9);
        x.likes(2, 0, 9);
        due("23: a DEAD one isn't voted", x.vote(), 2);
    }

    private static void kept() {
        NextButOne x = four();
        // with the word 0 and 3 name each other: 1, 2, 0, 1, 3, 2, 0 .. instead of 1, 2, 0, 1, 2, 0
        x.worth(3, 0, -5);
        due("24: 0 and 3", x.kept(0, 3, 5), -5 - 99);
        due("24: the SORT of the first", x.kept(3, 0, 5), 0);
        x.worth(3, 3, 7);
        due("24: 3 and 0", x.kept(3, 0, 5), 7);
        due("24: before they name", x.kept(0, 3, 4), 0);
        due("24: 200", x.kept(0, 3, 200) > -1000000 ? 1 : 0, 1);
        due("24: one and the same", x.kept(1, 1, 5), BEYOND);
        due("24: one 4", x.kept(4, 1, 5), BEYOND);
        due("24: other 4", x.kept(1, 4, 5), BEYOND);
        due("24: -1", x.kept(-1, 1, 5), BEYOND);
        due("24: n 0", x.kept(0, 1, 0), BEYOND);
        due("24: n 201", x.kept(0, 1, 201), BEYOND);
        x.set(0, 3, 8);
        x.set(3, 3, 1);
        due("24: if they MAY", x.kept(0, 3, 5), 0);
        x.rule(5, 20);
        x.set(3, 1, 99);
        x.years(1);
        due("24: DEAD", x.kept(3, 1, 5), STATE);
        due("24: the other DEAD", x.kept(1, 3, 5), STATE);
        due("24: BEYOND ahead of STATE", x.kept(3, 1, 0), BEYOND);
    }

    private static void pact() {
        NextButOne x = four();
        x.worth(3, 0, 90);
        x.worth(0, 0, 3);
        x.worth(3, 3, 40);
        int best = -1;
        int most = Integer.MIN_VALUE;
        for (int p = 0; p < 4; p++) {
            for (int q = p + 1; q < 4; q++) {
                int sum = x.kept(p, q, 9) + x.kept(q, p, 9);
                if (sum > most) {
                    most = sum;
                    best = 10 * p + q;
                }
            }
        }
        due("25: most together", x.pact(9), best);
        due("25: it is 1 and 3, who come soonest", best, 13);
        due("25: of several the least", people(0, 0, 0).pact(40), 1);
        due("25: n 0", x.pact(0), BEYOND);
        due("25: n 41", x.pact(41), BEYOND);
        NextButOne y = new NextButOne();
        due("25: nobody", y.pact(1), NONE);
        due("25: BEYOND ahead of NONE", y.pact(0), BEYOND);
        y.person(0, 99, 0);
        due("25: one", y.pact(1), NONE);
        y.person(0, 30, 0);
        due("25: two", y.pact(1), 1);
        y.rule(5, 20);
        y.years(1);
        due("25: one alive", y.pact(1), NONE);
        y.person(0, 30, 0);
        due("25: those alive", y.pact(1), 12);
    }

    private static void odds() {
        NextButOne x = people(0, 0, 0);
        x.line(0, 1);
        due("26: always", x.odds(1, 40), 40);
        due("26: never", x.odds(0, 40), 0);
        due("26: n 0", x.odds(0, 0), BEYOND);
        due("26: n 41", x.odds(0, 41), BEYOND);
        due("26: one 3", x.odds(3, 1), BEYOND);
        due("26: -1", x.odds(-1, 1), BEYOND);
        due("26: a trial", x.now(0), -1);
        due("26: RULED stays", x.count(3), 0);
        due("26: z stays", x.count(5), 1);
        due("26: AGE stays", x.of(0, 1), 30);
        due("26: nobody comes", people(0).odds(0, 3), 0);
    }

    /** The one ahead in THE LINE dies by the lot of the year, which goes on from trial to trial. */
    private static void oddsByLots() {
        NextButOne x = new NextButOne();
        x.person(0, 70, 0);
        x.person(0, 25, 0);
        x.rule(5, 16);
        x.line(0, 0);
        x.line(1, 1);
        int z = 1;
        int lives = 0;
        for (int trial = 0; trial < 40; trial++) {
            z = z * 1103515245 + 12345;
            lives += (z >>> 8) % 1000 < 16 * 31 ? 0 : 1;
            z = z * 1103515245 + 12345;
        }
        due("26: some live", lives > 5 && lives < 35 ? 1 : 0, 1);
        due("26: the old one", x.odds(0, 40), lives);
        due("26: the young one", x.odds(1, 40), 40 - lives);
    }

    private static void oddsByYears() {
        NextButOne x = people(0, 0);
        x.rule(5, 0);
        x.rule(1, 40);
        x.sit(0);
        x.line(1, 1);
        due("26: by a TERM of 40 years", x.odds(1, 2), 2);
        due("26: who SITS didn't come", x.odds(0, 2), 0);
    }

    /** Where nobody comes, the lots of all 200 YEARS are drawn, and no more: z shows it in the trials after. */
    private static void oddsEndAfterYears() {
        NextButOne x = new NextButOne();
        x.person(0, 98, 0);
        for (int i = 0; i < 9; i++) {
            x.person(0, 20, 0);
        }
        x.rule(5, 1);
        x.rule(1, 40);
        x.sit(1);
        x.line(0, 0);
        x.seed(41);
        due("26: 200 YEARS at most", x.odds(0, 40), 2);
    }

    public static void main(String[] args) {
        ahead();
        ever();
        nothingComesAgain();
        ruledInTrials();
        shareAndHas();
        but();
        vote();
        kept();
        pact();
        odds();
        oddsByLots();
        oddsByYears();
        oddsEndAfterYears();
        System.out.println(wrong == 0 ? "all answers are as due" : wrong + " answers are not as due");
        if (wrong != 0) {
            System.exit(1);
        }
    }
}
