/** Promises 17 to 26. */
public final class AheadTest extends Check {
    private static NextButOne tellers(String text) {
        NextButOne x = people(5, 5, 5, 5, 5, 5, 5, 5, 5, 5);
        tell(x, text);
        x.rule(0, 4);
        for (int i = 0; i < 4; i++) {
            x.line(i, i);
        }
        return x;
    }

    /** 3 names 0, 0 names 1, 1 names 0 or 2: from (3; 1 2) on 1, 2, 0, 1, 2 .. */
    private static NextButOne four() {
        NextButOne x = people(0, 0, 0, 0);
        x.sit(3);
        x.line(0, 1);
        x.line(1, 2);
        x.worth(0, 0, 1);
        x.worth(1, 0, 10);
        x.worth(2, 0, 99);
        return x;
    }

    private static void ahead() {
        NextButOne x = four();
        int[] who = {1, 2, 0, 1, 2, 0, 1};
        for (int i = 0; i < who.length; i++) {
            due("17: " + (i + 1), x.ahead(i + 1), who[i]);
        }
        due("17: 200", x.ahead(200), 2);
        due("17: 0", x.ahead(0), BEYOND);
        due("17: 201", x.ahead(201), BEYOND);
        due("17: -1", x.ahead(-1), BEYOND);
        due("17: it was a trial", x.now(0), 3);
        due("17: THE LINE stays", x.now(2) * 10 + x.now(3), 12);
        due("17: RULED stays", x.count(3), 0);
        due("17: AGE stays", x.of(0, 1), 30);
        due("17: z stays", x.count(5), 1);
        x.sit(-1);
        x.line(0, -1);
        x.line(1, -1);
        due("17: nobody", x.ahead(3), -1);
    }

    private static void ever() {
        NextButOne x = four();
        due("18: 0, 1 and 2", x.ever(), 7);
        due("19: till it was so first", x.turns(0), 1);
        due("19: till it is so again", x.turns(1), 3);
        due("19: 2", x.turns(2), BEYOND);
        due("19: -1", x.turns(-1), BEYOND);
        x.come();
        due("19: as it is now", x.turns(0), 0);
        due("18: a trial", x.count(3), 1);
        NextButOne y = new NextButOne();
        due("18: nobody", y.ever(), 0);
        due("19: nobody, first", y.turns(0), 0);
        due("19: nobody, again", y.turns(1), 1);
    }

    /**
     * Who SITS and who come one by one, on an object of its own. As all four places are always named for, five of these
     * in a row are who SITS and THE LINE: where five come again, it is as it was.
     */
    private static int[] firstRound(NextButOne x) {
        int[] came = new int[310];
        came[0] = x.now(0);
        for (int i = 1; i < came.length; i++) {
            came[i] = x.come();
        }
        for (int again = 1; again + 4 < came.length; again++) {
            for (int first = 0; first < again; first++) {
                int like = 0;
                while (like < 5 && came[first + like] == came[again + like]) {
                    like++;
                }
                if (like == 5) {
                    return new int[] {first, again - first, setOf(came, first + 1, again)};
                }
            }
        }
        return new int[] {-1, -1, -1};
    }

    private static int setOf(int[] came, int from, int to) {
        int set = 0;
        for (int i = from; i <= to; i++) {
            set |= 1 << came[i];
        }
        return set;
    }

    private static void threeHundredChairsAtMost() {
        String text = "-r*54+(r*3957*a+a*9305+r*r*527)%100";
        int[] late = firstRound(tellers(text));
        due("18: it is so again behind 301 CHAIRS", late[0] + late[1], 301);
        NextButOne x = tellers(text);
        due("18: 301 CHAIRS", x.ever(), NONE);
        due("19: 301 CHAIRS", x.turns(0), NONE);
        due("19: 301 CHAIRS, again", x.turns(1), NONE);
        x.come();
        due("19: 300 CHAIRS", x.turns(0), late[0] - 1);
        due("19: 300 CHAIRS, again", x.turns(1), late[1]);
        due("18: 300 CHAIRS", x.ever(), late[2]);
    }

    private static void nothingComesAgain() {
        NextButOne x = tellers("-r*22+(r*5790*a+a*4518+r*r*218)%49");
        due("18: not in 300 CHAIRS", firstRound(tellers("-r*22+(r*5790*a+a*4518+r*r*218)%49"))[0], -1);
        due("18: NONE", x.ever(), NONE);
        due("19: NONE", x.turns(0), NONE);
        due("19: NONE, again", x.turns(1), NONE);
        due("19: BEYOND ahead of NONE", x.turns(2), BEYOND);
    }

    /** 0 SITS, 9 is the next, and each MAY name one alone, or none. */
    private static NextButOne bound(int whom9, int whom1, int whom0) {
        NextButOne x = namers(10);
        stand(x, 9);
        x.sit(0);
        x.set(9, 3, 1023 & ~whom9);
        x.set(1, 3, 1023 & ~whom1);
        x.set(0, 3, 1023 & ~whom0);
        return x;
    }

    private static void everTellsStatesApart() {
        // (0; 9) (9; 1) (1; nobody) (nobody; nobody) again and again
        NextButOne x = bound(1 << 1, 0, 0);
        due("19: 9 names 1, who names nobody", x.turns(0), 3);
        due("19: nobody again and again", x.turns(1), 1);
        due("18: nobody is no one", x.ever(), 0);
        // (0; 9) (9; 1) (1; 0) (0; 1) (1; 0)
        NextButOne y = bound(1 << 1, 1 << 0, 1 << 1);
        due("19: who SITS is as it was, but THE LINE isn't", y.turns(0), 2);
        due("19: by turns", y.turns(1), 2);
        due("18: those since then, 9 not", y.ever(), 3);
    }

    private static void everAsItIsNow() {
        NextButOne x = namers(1);
        x.rule(2, 1);
        x.sit(0);
        stand(x, 0);
        due("19: as it is now", x.turns(0), 0);
        due("19: at once", x.turns(1), 1);
        due("18: 0 alone", x.ever(), 1);
        NextButOne y = namers(10);
        stand(y, 1, 2, 3, 4);
        due("18: nobody SITS now", y.turns(0), 1);
    }

    /** By GAP 2 each second chair is for nobody: nobody, 0, nobody, 1, nobody, 0 .. */
    private static NextButOne gaps() {
        NextButOne x = namers(3);
        x.rule(4, 2);
        stand(x, -1, 0);
        x.worth(0, 0, 99);
        return x;
    }

    private static void chairsForNobody() {
        NextButOne x = gaps();
        due("17: nobody", x.ahead(1), -1);
        due("17: 0", x.ahead(2), 0);
        due("17: 1", x.ahead(4), 1);
        due("17: 199", x.ahead(199), -1);
        due("17: 200", x.ahead(200), 1);
        due("18: 0 and 1", x.ever(), 3);
        due("19: from the first on", x.turns(0), 1);
        due("19: four", x.turns(1), 4);
        due("20: nobody in 1", x.share(0, 1), 0);
        due("20: one in 2", x.share(0, 2), 1);
        due("20: 100 of 200", x.share(0, 200), 100);
        due("20: nobody is of no SORT", x.share(1, 200) + x.share(2, 200) + x.share(3, 200), 0);
        due("21: nobody has none", x.has(0, 1), 0);
        due("21: 100 of 200", x.has(0, 200), 9900);
        due("24: nobody's SORT has none", x.kept(0, 2, 200), 0);
        due("36: nobody first", x.sheet(0, 64, 3) + x.write(0, 0, -1) + x.write(0, 2, -1) + x.read(0), 3);
    }

    private static void worthAtTheEdges() {
        NextButOne x = namers(3);
        x.line(0, 0);
        x.worth(0, 0, 99);
        due("21: the most", x.has(0, 200), 19800);
        due("22: the most", x.but(4, 0, 200), 19800);
        x.worth(0, 0, -99);
        due("21: the least", x.has(0, 200), -19800);
        due("22: the least", x.but(1, 0, 200), -19800);
        due("20: all", x.share(0, 200), 200);
    }

    private static void nobodyDiesAhead() {
        NextButOne x = new NextButOne();
        x.person(3, 99, 0);
        x.person(3, 98, 0);
        x.person(3, 20, 1);
        x.rule(5, 20);
        stand(x, 0);
        // FOOLS name the oldest: 0 and 1 by turns, for no AGE changes
        due("17: nobody dies", x.ahead(199), 0);
        due("17: no AGE changes", x.ahead(200), 1);
        due("18: the two", x.ever(), 3);
        due("20: the two", x.share(0, 200), 200);
        due("17: all are alive", x.count(1), 3);
        due("17: AGE", x.of(1, 1), 98);
        due("17: no draw", x.count(5), 1);
    }

    private static void butLosesAndGets() {
        NextButOne x = people(0, 0, 0, 0, 0);
        stand(x, 3, 2, 1, 4);
        x.worth(3, 0, 5);
        x.worth(2, 0, 50);
        x.worth(1, 0, 99);
        x.worth(0, 0, 1);
        due("22: as it is", x.but(4, 0, 3), 5 + 50 + 99);
        due("22: three places", x.but(3, 0, 3), 5 + 50 + 99);
        // (3 2): 3 names 0
        due("22: two places", x.but(2, 0, 3), 5 + 50 + 1);
        // (3): 3 names 0, 0 names 1
        due("22: one place", x.but(1, 0, 3), 5 + 1 + 99);
        line("22: THE LINE stays", x, 3, 2, 1, 4);
        NextButOne y = people(0, 0, 0, 0, 0);
        stand(y, 3);
        y.worth(0, 0, 1);
        y.worth(1, 0, 99);
        // (3 - - -): 3 names 0, 0 names 1, passed over what is for nobody
        due("22: three places more", y.but(4, 0, 3), 1 + 99);
        y.rule(4, 2);
        due("22: three places more that are not passed over", y.but(4, 0, 4), 0);
        due("22: till the last one comes", y.but(4, 0, 5), 1);
    }

    /** If AHEAD were k is as if it is, for BEST ones too, who look ahead by it. */
    private static void butIsAsIfItWere() {
        for (int k = 1; k <= 4; k++) {
            NextButOne x = mixed();
            NextButOne y = mixed();
            y.rule(0, k);
            for (int sort = 0; sort < 4; sort++) {
                due("22: AHEAD " + k + ", SORT " + sort, x.but(k, sort, 200), y.has(sort, 200));
            }
        }
    }

    private static NextButOne mixed() {
        NextButOne x = people(6, 1, 4, 6, 2, 0, 3, 6);
        for (int one = 0; one < 8; one++) {
            for (int other = 0; other < 8; other++) {
                x.likes(one, other, (one * 7 + other * 5) % 13 - 6);
            }
        }
        for (int i = 0; i < 16; i++) {
            x.worth(i / 4, i % 4, (i * 37) % 101 - 50);
        }
        stand(x, 2, 6, 0);
        x.sit(5);
        return x;
    }

    private static void ruledInTrials() {
        NextButOne x = people(5, 5, 5, 5, 5);
        tell(x, "-r");
        x.rule(0, 1);
        x.line(0, 0);
        // who has RULED least is named, in the trial too
        int[] who = {0, 1, 2, 3, 4, 0, 1};
        for (int i = 0; i < who.length; i++) {
            due("17: RULED goes on in a trial, " + i, x.ahead(i + 1), who[i]);
        }
    }

    private static void shareAndHas() {
        NextButOne x = four();
        due("20: SORT 1 in 1", x.share(1, 1), 1);
        due("20: SORT 1 in 7", x.share(1, 7), 3);
        due("20: SORT 0 in 200", x.share(0, 200), 66);
        due("20: SORT 3", x.share(3, 200), 0);
        due("20: sort 4", x.share(4, 1), BEYOND);
        due("20: sort -1", x.share(-1, 1), BEYOND);
        due("20: n 0", x.share(0, 0), BEYOND);
        due("20: n 201", x.share(0, 201), BEYOND);
        due("21: 1", x.has(0, 1), 10);
        due("21: 4", x.has(0, 4), 10 + 99 + 1 + 10);
        due("21: 200", x.has(0, 200), 66 * 110 + 10 + 99);
        due("21: another SORT", x.has(1, 200), 0);
        due("21: sort 4", x.has(4, 1), BEYOND);
        due("21: sort -1", x.has(-1, 1), BEYOND);
        due("21: n 0", x.has(0, 0), BEYOND);
        due("21: n 201", x.has(0, 201), BEYOND);
    }

    private static void but() {
        NextButOne x = four();
        due("22: as it is", x.but(2, 0, 7), x.has(0, 7));
        // AHEAD 1: 1 names 0, 0 names 1
        due("22: AHEAD 1", x.but(1, 0, 3), 10 + 1 + 10);
        // AHEAD 4: 1 comes from (1 2 - -) and names 0; 2 from (2 - - 0) names 1; 0 from (- - 0 1) names 2; 1 ..
        due("22: AHEAD 4", x.but(4, 0, 4), 10 + 99 + 1 + 10);
        due("22: k 0", x.but(0, 0, 1), BEYOND);
        due("22: k 5", x.but(5, 0, 1), BEYOND);
        due("22: sort 4", x.but(1, 4, 1), BEYOND);
        due("22: sort -1", x.but(1, -1, 1), BEYOND);
        due("22: n 0", x.but(1, 0, 0), BEYOND);
        due("22: n 201", x.but(1, 0, 201), BEYOND);
        due("22: AHEAD stays", x.rule(0, 2), 2);
        due("22: THE LINE stays", x.now(3), 2);
    }

    private static void vote() {
        NextButOne x = new NextButOne();
        due("23: NONE", x.vote(), NONE);
        x.person(0, 99, 0);
        x.person(0, 30, 0);
        x.person(0, 30, 0);
        x.person(0, 30, 0);
        due("23: of like ones the least", x.vote(), 0);
        x.likes(1, 0, -1);
        due("23: the next", x.vote(), 1);
        x.likes(0, 3, 9);
        x.likes(1, 2, 4);
        x.likes(3, 2, 4);
        due("23: most together", x.vote(), 3);
        x.rule(5, 20);
        x.years(1);
        due("23: LIKES of the DEAD don't count", x.vote(), 2);
        x.likes(1, 0, 9);
        x.likes(2, 0, 9);
        due("23: a DEAD one isn't voted", x.vote(), 2);
    }

    private static void voteAtTheEdges() {
        NextButOne x = namers(10);
        for (int one = 0; one < 9; one++) {
            x.likes(one, 9, 9);
        }
        due("23: 81", x.vote(), 9);
        for (int one = 0; one < 10; one++) {
            if (one != 7) {
                x.likes(one, 7, 9);
            }
        }
        due("23: of like ones the least", x.vote(), 7);
        x.likes(9, 7, 8);
        due("23: one less", x.vote(), 9);
        NextButOne y = namers(2);
        y.likes(0, 1, -9);
        y.likes(1, 0, -9);
        due("23: both -9", y.vote(), 0);
        y.likes(0, 1, -8);
        due("23: -8", y.vote(), 1);
        NextButOne z = withOneDead();
        z.likes(1, 2, -9);
        z.likes(0, 2, 9);
        z.likes(1, 0, 9);
        z.likes(2, 1, -8);
        due("23: without the DEAD one", z.vote(), 1);
    }

    private static void kept() {
        NextButOne x = four();
        // with the word 0 and 3 name each other: 1, 2, 0, 1, 3, 2, 0 .. instead of 1, 2, 0, 1, 2, 0
        x.worth(3, 0, -5);
        due("24: 0 and 3", x.kept(0, 3, 5), -5 - 99);
        due("24: the SORT of the first", x.kept(3, 0, 5), 0);
        x.worth(3, 3, 7);
        due("24: 3 and 0", x.kept(3, 0, 5), 7);
        due("24: before they name", x.kept(0, 3, 4), 0);
        due("24: 200", x.kept(0, 3, 200) > -1000000 ? 1 : 0, 1);
        due("24: one and the same", x.kept(1, 1, 5), BEYOND);
        due("24: one 4", x.kept(4, 1, 5), BEYOND);
        due("24: other 4", x.kept(1, 4, 5), BEYOND);
        due("24: -1", x.kept(-1, 1, 5), BEYOND);
        due("24: n 0", x.kept(0, 1, 0), BEYOND);
        due("24: n 201", x.kept(0, 1, 201), BEYOND);
        x.set(0, 3, 8);
        x.set(3, 3, 1);
        due("24: if they MAY", x.kept(0, 3, 5), 0);
        x.rule(5, 20);
        x.set(3, 1, 99);
        x.years(1);
        due("24: DEAD", x.kept(3, 1, 5), STATE);
        due("24: the other DEAD", x.kept(1, 3, 5), STATE);
        due("24: BEYOND ahead of STATE", x.kept(3, 1, 0), BEYOND);
    }

    /** 1 and 2 keep to a word. 0, a BEST one, looks at what follows without it: by naming 1 then 3 comes, whom 1 LIKES. */
    private static void keptNotInFollows() {
        NextButOne x = people(6, 0, 0, 0);
        stand(x, 0);
        x.likes(1, 3, 9);
        x.worth(2, 0, -50);
        x.worth(3, 0, 10);
        x.worth(2, 1, 7);
        x.worth(3, 1, 1);
        due("24: without, 0 names 1", x.ahead(2), 1);
        due("24: without, 1 names 3", x.ahead(3), 3);
        due("24: 0, 1, 2 instead of 0, 1, 3", x.kept(1, 2, 3), 7 - 1);
        // 0, 1, 2, 1, 2 instead of 0, 1, 3, 0, 1
        due("24: always", x.kept(1, 2, 5), 14 - 1);
    }

    /** 0 and 1 can't name each other while the other one stands in THE LINE. */
    private static void keptElseAsOneWould() {
        NextButOne x = people(0, 0, 0, 0);
        stand(x, 0, 1);
        x.likes(0, 3, 9);
        x.worth(0, 0, 1);
        x.worth(1, 0, 10);
        x.worth(2, 0, 30);
        x.worth(3, 0, 60);
        // 0 names 3 (1 is in THE LINE), 1 names 0, 3 names 1, 0 names 3 again, with the word and without
        due("24: in THE LINE", x.kept(0, 1, 6), 0);
        x.set(1, 3, 1);
        // 1 has 0 for KIN and names 2 with and without; 0 has none, but comes no more in 3 CHAIRS
        due("24: KIN of the other alone", x.kept(0, 1, 4), 0);
        x.rule(3, 1);
        x.likes(1, 2, 9);
        // KINS 1: 0 names 3, 1 names 0 instead of 2
        due("24: KIN by KINS", x.kept(0, 1, 4), 1 - 30);
    }

    /** Each KEPT is asked of an object of its own, as is the pact. */
    private static void pactIsKeptOfBoth() {
        for (int n : new int[] {1, 2, 3, 5, 9, 17, 40}) {
            int best = -1;
            int most = 0;
            for (int one = 0; one < 8; one++) {
                for (int other = one + 1; other < 8; other++) {
                    int sum = mixed().kept(one, other, n) + mixed().kept(other, one, n);
                    if (best < 0 || sum > most) {
                        best = 10 * one + other;
                        most = sum;
                    }
                }
            }
            due("25: of " + n, mixed().pact(n), best);
        }
    }

    /** 0 to 7 die, so that 8 and 9 are the two. */
    private static void pactOfTheLast() {
        NextButOne x = new NextButOne();
        for (int one = 0; one < 10; one++) {
            x.person(0, one < 8 ? 99 : 20, 0);
        }
        x.rule(5, 20);
        due("25: of several the least", x.pact(40), 1);
        x.years(1);
        due("25: the last two", x.pact(40), 89);
        due("25: the last two, 1", x.pact(1), 89);
    }

    /** The DEAD are left out wherever they stand among the numbers. */
    private static void pactWithoutTheDead() {
        for (int dead = 0; dead < 3; dead++) {
            NextButOne x = new NextButOne();
            for (int one = 0; one < 3; one++) {
                x.person(0, one == dead ? 99 : 20, 0);
            }
            x.rule(5, 20);
            x.years(1);
            due("25: " + dead + " is DEAD", x.pact(5), new int[] {12, 2, 1}[dead]);
        }
    }

    private static void pact() {
        NextButOne x = four();
        x.worth(3, 0, 90);
        x.worth(0, 0, 3);
        x.worth(3, 3, 40);
        int best = -1;
        int most = Integer.MIN_VALUE;
        for (int p = 0; p < 4; p++) {
            for (int q = p + 1; q < 4; q++) {
                int sum = x.kept(p, q, 9) + x.kept(q, p, 9);
                if (sum > most) {
                    most = sum;
                    best = 10 * p + q;
                }
            }
        }
        due("25: most together", x.pact(9), best);
        due("25: it is 1 and 3, who come soonest", best, 13);
        due("25: of several the least", people(0, 0, 0).pact(40), 1);
        due("25: n 0", x.pact(0), BEYOND);
        due("25: n 41", x.pact(41), BEYOND);
        NextButOne y = new NextButOne();
        due("25: nobody", y.pact(1), NONE);
        due("25: BEYOND ahead of NONE", y.pact(0), BEYOND);
        y.person(0, 99, 0);
        due("25: one", y.pact(1), NONE);
        y.person(0, 30, 0);
        due("25: two", y.pact(1), 1);
        y.rule(5, 20);
        y.years(1);
        due("25: one alive", y.pact(1), NONE);
        y.person(0, 30, 0);
        due("25: those alive", y.pact(1), 12);
    }

    private static void odds() {
        NextButOne x = people(0, 0, 0);
        x.line(0, 1);
        due("26: always", x.odds(1, 40), 40);
        due("26: never", x.odds(0, 40), 0);
        due("26: n 0", x.odds(0, 0), BEYOND);
        due("26: n 41", x.odds(0, 41), BEYOND);
        due("26: one 3", x.odds(3, 1), BEYOND);
        due("26: -1", x.odds(-1, 1), BEYOND);
        due("26: a trial", x.now(0), -1);
        due("26: RULED stays", x.count(3), 0);
        due("26: z stays", x.count(5), 1);
        due("26: AGE stays", x.of(0, 1), 30);
        due("26: nobody comes", people(0).odds(0, 3), 0);
    }

    /** The one ahead in THE LINE dies by the lot of the year, which goes on from trial to trial. */
    private static void oddsByLots() {
        NextButOne x = new NextButOne();
        x.person(0, 70, 0);
        x.person(0, 25, 0);
        x.rule(5, 16);
        x.line(0, 0);
        x.line(1, 1);
        int z = 1;
        int lives = 0;
        for (int trial = 0; trial < 40; trial++) {
            z = z * 1103515245 + 12345;
            lives += (z >>> 8) % 1000 < 16 * 31 ? 0 : 1;
            z = z * 1103515245 + 12345;
        }
        due("26: some live", lives > 5 && lives < 35 ? 1 : 0, 1);
        due("26: the old one", x.odds(0, 40), lives);
        due("26: the young one", x.odds(1, 40), 40 - lives);
    }

    private static void oddsByYears() {
        NextButOne x = people(0, 0);
        x.rule(5, 0);
        x.rule(1, 40);
        x.sit(0);
        x.line(1, 1);
        due("26: by a TERM of 40 years", x.odds(1, 2), 2);
        due("26: who SITS didn't come", x.odds(0, 2), 0);
    }

    /** Where nobody comes, the lots of all 200 YEARS are drawn, and no more: z shows it in the trials after. */
    private static void oddsEndAfterYears() {
        NextButOne x = new NextButOne();
        x.person(0, 98, 0);
        for (int i = 0; i < 9; i++) {
            x.person(0, 20, 0);
        }
        x.rule(5, 1);
        x.rule(1, 40);
        x.sit(1);
        x.line(0, 0);
        x.seed(41);
        due("26: 200 YEARS at most", x.odds(0, 40), 2);
    }

    public static void main(String[] args) {
        ahead();
        ever();
        threeHundredChairsAtMost();
        nothingComesAgain();
        everTellsStatesApart();
        everAsItIsNow();
        chairsForNobody();
        worthAtTheEdges();
        nobodyDiesAhead();
        ruledInTrials();
        shareAndHas();
        but();
        butLosesAndGets();
        butIsAsIfItWere();
        vote();
        voteAtTheEdges();
        kept();
        keptNotInFollows();
        keptElseAsOneWould();
        pact();
        pactIsKeptOfBoth();
        pactOfTheLast();
        pactWithoutTheDead();
        odds();
        oddsByLots();
        oddsByYears();
        oddsEndAfterYears();
        end();
    }
}
