/** Section 1 of the terms, sentence by sentence at its edges: PEOPLE, RULES, THE LINE, MAY, WOULD, FOLLOWS, TO COME. */
public final class TermsTest extends Check {
    private static final int NAMER = 0;
    private static final int FRIEND = 1;
    private static final int SPITE = 2;
    private static final int FOOL = 3;
    private static final int PACT = 4;
    private static final int TOLD = 5;
    private static final int BEST = 6;
    private static final String LEAST_INT = "0-8192*8192*32";

    private static void findingsInLongs() {
        NextButOne x = new NextButOne();
        due("BEYOND in a long", x.write(4, 0, 0), -1000000001L);
        due("MISSING in a long", x.write(0, 0, 0), -1000000006L);
    }

    private static void atFirst() {
        NextButOne x = namers(10);
        for (int one = 0; one < 10; one++) {
            due("KIN: none at first", x.of(one, 3), 0);
            due("RULED: 0 at first", x.of(one, 4), 0);
            due("alive at first", x.of(one, 5), 0);
            due("not in THE LINE at first", x.of(one, 6), -1);
            for (int other = 0; other < 10; other++) {
                due("LIKES: 0 at first", one == other ? 0 : x.likes(one, other, 1), 0);
            }
        }
        for (int i = 0; i < 16; i++) {
            due("WORTH: 0 at first", x.worth(i / 4, i % 4, 1), 0);
        }
    }

    private static void kinOfOneselfDoesntMatter() {
        NextButOne x = namers(3);
        x.set(0, 3, 1);
        x.sit(0);
        due("KIN of oneself, AGAIN 0", x.may(0), 0b110);
        x.rule(2, 1);
        due("KIN of oneself, AGAIN 1", x.may(0), 0b111);
        x.rule(3, 1);
        due("KIN of oneself, AGAIN 1, KINS 1", x.may(0), 0b111);
        x.rule(2, 0);
        due("KIN of oneself, AGAIN 0, KINS 1", x.may(0), 0b110);
        x.sit(-1);
        due("KIN of oneself, nobody SITS", x.may(0), 0b110);
    }

    private static void aheadBecomesAnotherNumber() {
        NextButOne x = namers(5);
        stand(x, 0, 1, 2, 3);
        due("AHEAD 4 again", x.rule(0, 4), 4);
        line("AHEAD stays", x, 0, 1, 2, 3);
        due("AHEAD 3", x.rule(0, 3), 4);
        line("AHEAD 3", x, 0, 1, 2);
        due("who was lost isn't in THE LINE", x.of(3, 6), -1);
        due("who was lost MAY be named", x.may(4), 0b01000);
        due("AHEAD 1", x.rule(0, 1), 3);
        line("AHEAD 1", x, 0);
        due("one is named", x.count(2), 1);
        due("AHEAD 4", x.rule(0, 4), 1);
        line("AHEAD 4, those behind are for nobody", x, 0, -1, -1, -1);
        due("who was lost may stand there", x.line(3, 3), -1);
        x.rule(1, 9);
        line("another RULE leaves THE LINE", x, 0, -1, -1, 3);
    }

    private static void mayNameOneself() {
        NextButOne x = namers(3);
        x.rule(2, 1);
        due("AGAIN 1, but one doesn't SIT", x.may(1), 0b101);
        x.sit(1);
        due("AGAIN 1, and one SITS", x.may(1), 0b111);
        due("AGAIN 1, another one doesn't", x.may(0), 0b100);
        x.line(0, 1);
        due("AGAIN 1, but one is first in THE LINE", x.may(1), 0b101);
        x.line(0, -1);
        x.line(1, 1);
        due("AGAIN 1, but one is last in THE LINE", x.may(1), 0b101);
        x.line(1, -1);
        x.rule(2, 0);
        due("AGAIN 0", x.may(1), 0b101);
    }

    private static void mayNameNone() {
        NextButOne x = namers(10);
        due("MAY: all others of ten", x.may(9), 511);
        stand(x, 0, 1, 2, 3);
        x.sit(4);
        due("MAY: five less", x.may(9), 0b0111100000);
        x.set(9, 3, 1023);
        due("MAY: all are KIN", x.may(9), 0);
        due("WOULD: all are KIN", x.of(9, 7), -1);
        due("KIN of another one", x.may(8), 0b1011100000);
        due("MAY: nobody but oneself", namers(1).may(0), 0);
    }

    private static void wouldNameNobody() {
        for (int kind = NAMER; kind <= BEST; kind++) {
            NextButOne x = people(kind, NAMER);
            tell(x, "1");
            due("one MAY be named, KIND " + kind, x.of(0, 7), 1);
            x.line(1, 1);
            due("none MAY be named, KIND " + kind, x.of(0, 7), -1);
            due("alone, KIND " + kind, people(kind).of(0, 7), -1);
            NextButOne y = people(kind, NAMER);
            y.line(0, 0);
            y.line(1, 1);
            y.come();
            line("names nobody, KIND " + kind, y, 1, -1);
        }
    }

    private static NextButOne fiveWith(int kind) {
        return people(kind, NAMER, NAMER, NAMER, NAMER);
    }

    private static void likesOf(NextButOne x, int one, int for1, int for2, int for3) {
        x.likes(one, 1, for1);
        x.likes(one, 2, for2);
        x.likes(one, 3, for3);
    }

    private static void namerAtTheEdges() {
        NextButOne x = fiveWith(NAMER);
        x.line(0, 4);
        due("NAMER, all alike", x.of(0, 7), 1);
        likesOf(x, 0, -9, -9, -9);
        due("NAMER, all -9", x.of(0, 7), 1);
        likesOf(x, 0, -9, -9, -8);
        due("NAMER, the last is -8", x.of(0, 7), 3);
        likesOf(x, 0, 8, 9, 9);
        due("NAMER, of like ones the least", x.of(0, 7), 2);
        x.likes(0, 4, 9);
        x.line(0, 2);
        due("NAMER, the first of those whom one MAY", x.of(0, 7), 3);
    }

    private static void friendAtTheEdges() {
        NextButOne x = fiveWith(FRIEND);
        x.line(1, 4);
        due("FRIEND, all alike", x.of(0, 7), 1);
        likesOf(x, 0, 0, 0, 9);
        likesOf(x, 4, -9, -9, -9);
        due("FRIEND, all -9", x.of(0, 7), 1);
        likesOf(x, 4, -9, -8, -9);
        due("FRIEND, one is -8", x.of(0, 7), 2);
        likesOf(x, 4, 8, 9, 9);
        due("FRIEND, of like ones the least", x.of(0, 7), 2);
        x.line(1, -1);
        due("FRIEND without any as NAMER", x.of(0, 7), 3);
    }

    private static void spiteAtTheEdges() {
        NextButOne x = fiveWith(SPITE);
        x.line(1, 4);
        due("SPITE, all alike", x.of(0, 7), 1);
        likesOf(x, 0, 0, 0, 9);
        likesOf(x, 4, 9, 9, 9);
        due("SPITE, all 9", x.of(0, 7), 1);
        likesOf(x, 4, 9, 8, 9);
        due("SPITE, one is 8", x.of(0, 7), 2);
        likesOf(x, 4, -8, -9, -9);
        due("SPITE, of like ones the least", x.of(0, 7), 2);
        x.line(1, -1);
        due("SPITE without any as NAMER", x.of(0, 7), 3);
    }

    /** The first who is named, not the first place; who is named behind doesn't count. */
    private static void theFirstNamed() {
        NextButOne x = people(FRIEND, SPITE, NAMER, NAMER, NAMER, NAMER);
        stand(x, -1, -1, 5, 4);
        x.likes(5, 3, 1);
        x.likes(4, 2, 1);
        x.likes(5, 0, -1);
        x.likes(4, 3, -1);
        due("FRIEND by place 2", x.of(0, 7), 3);
        due("SPITE by place 2", x.of(1, 7), 0);
        tell(x, "n");
        due("n by place 2", x.gives(0, 3), 1);
        x.line(2, -1);
        due("FRIEND by place 3", x.of(0, 7), 2);
        due("SPITE by place 3", x.of(1, 7), 3);
        due("n by place 3", x.gives(0, 3), -1);
        x.line(3, -1);
        due("n without any", x.gives(0, 3), 0);
    }

    private static void foolAtTheEdges() {
        NextButOne x = fiveWith(FOOL);
        for (int one = 0; one < 5; one++) {
            x.set(one, 1, 20);
        }
        due("FOOL, all 20", x.of(0, 7), 1);
        x.set(4, 1, 21);
        due("FOOL, one is 21", x.of(0, 7), 4);
        x.set(3, 1, 99);
        x.set(4, 1, 99);
        due("FOOL, of like ones the least", x.of(0, 7), 3);
        x.set(0, 1, 99);
        x.sit(0);
        x.rule(2, 1);
        due("FOOL, oneself by AGAIN", x.of(0, 7), 0);
    }

    private static void pactAtTheEdges() {
        NextButOne x = fiveWith(PACT);
        likesOf(x, 0, 9, 9, 9);
        x.likes(0, 4, -9);
        due("PACT, the own SORT, LIKES -9", x.of(0, 7), 4);
        x.set(2, 2, 0);
        x.likes(0, 2, -9);
        due("PACT, of like ones the least", x.of(0, 7), 2);
        x.line(0, 2);
        x.line(1, 4);
        due("PACT without any of the own SORT", x.of(0, 7), 1);
        x.sit(0);
        x.rule(2, 1);
        due("PACT, oneself is of the own SORT", x.of(0, 7), 0);
    }

    /** Each one but the PACT itself is once the only one of its SORT, and LIKED least. */
    private static void pactOfEachOne() {
        for (int own = 0; own < 9; own++) {
            NextButOne x = namers(10);
            x.set(9, 0, PACT);
            x.set(9, 2, 3);
            x.set(own, 2, 3);
            x.likes(9, own, -9);
            due("PACT, of the own SORT is " + own, x.of(9, 7), own);
        }
    }

    private static void toldAtTheEdges() {
        NextButOne x = fiveWith(TOLD);
        likesOf(x, 0, 0, 0, 9);
        due("TOLD without a TEXT as NAMER", x.of(0, 7), 3);
        tell(x, LEAST_INT);
        due("TOLD, all the least int", x.of(0, 7), 1);
        tell(x, LEAST_INT + "+(a=34)");
        due("TOLD, one is more than the least int", x.of(0, 7), 4);
        tell(x, LEAST_INT + "-1");
        due("TOLD, all the greatest int", x.of(0, 7), 1);
        tell(x, LEAST_INT + "-1-(a<33)");
        due("TOLD, of like ones the least", x.of(0, 7), 3);
        tell(x, "-a");
        due("TOLD, all below 0", x.of(0, 7), 1);
        x.untell();
        due("TOLD, the TEXT is gone", x.of(0, 7), 3);
    }

    private static void bestAtTheEdges() {
        NextButOne x = people(BEST, NAMER, NAMER, NAMER);
        x.rule(0, 1);
        x.sit(0);
        x.likes(0, 3, 9);
        due("BEST, all alike", x.of(0, 7), 1);
        x.likes(0, 3, 0);
        int[] worths = {-1, -50, -10, -25};
        for (int sort = 0; sort < 4; sort++) {
            x.worth(sort, 0, worths[sort]);
        }
        // who is named names 0, who names 1
        due("12: all below 0, 1", x.follows(0, 1), -50 - 1 - 50);
        due("12: all below 0, 2", x.follows(0, 2), -10 - 1 - 50);
        due("12: all below 0, 3", x.follows(0, 3), -25 - 1 - 50);
        due("BEST, all below 0", x.of(0, 7), 2);
        x.worth(3, 0, -10);
        due("BEST, of like ones the least", x.of(0, 7), 2);
        x.worth(3, 0, -9);
        due("BEST, one more", x.of(0, 7), 3);
    }

    private static void followsAheadAndTwoTimes() {
        for (int ahead = 1; ahead <= 4; ahead++) {
            NextButOne x = namers(10);
            x.worth(0, 0, 99);
            x.rule(0, ahead);
            due("12: GAP 0, AHEAD " + ahead, x.follows(0, 1), 99 * (ahead + 2));
            x.rule(4, 1);
            // nobody till the last place comes, then that one, who names for each place
            due("12: GAP 1, AHEAD " + ahead, x.follows(0, 1), 99 * 3);
            x.rule(4, 2);
            due("12: GAP 2, AHEAD " + ahead, x.follows(0, 1), 99 * new int[] {3, 2, 1, 1}[ahead - 1]);
            x.worth(0, 0, -99);
            due("12: WORTH -99, AHEAD " + ahead, x.follows(0, 1), -99 * new int[] {3, 2, 1, 1}[ahead - 1]);
            due("12: it was a trial, AHEAD " + ahead, x.count(2) + x.count(3), 0);
        }
    }

    private static void followsWhoWasIsntAnyMore() {
        NextButOne x = people(NAMER, NAMER, NAMER, NAMER, NAMER);
        stand(x, 1, 2);
        x.likes(1, 2, 9);
        x.worth(2, 0, 7);
        // from (1 3): 1 names 2, who isn't in THE LINE any more; 3 names 0; 2; 0
        due("12: who was MAY be named there", x.follows(0, 3), 7);
        line("12: and is still named", x, 1, 2);
    }

    private static void followsBestAsNamer() {
        NextButOne x = people(BEST, BEST, NAMER, NAMER);
        x.rule(0, 1);
        x.likes(1, 3, 5);
        x.worth(2, 1, 90);
        x.worth(2, 0, 50);
        x.worth(3, 0, 7);
        due("BEST 1 would name 2", x.of(1, 7), 2);
        // 1 names 3 by LIKES, 3 names 0
        due("12: there 1 names as NAMER", x.follows(0, 1), 7);
    }

    /** 0 is the next. By naming 1 it has 3, whom 1 LIKES, as much as by naming 3: so it names 1, the least. */
    private static NextButOne twoBest() {
        NextButOne x = people(BEST, BEST, NAMER, NAMER);
        x.rule(5, 0);
        stand(x, 0);
        x.likes(1, 3, 5);
        x.worth(3, 0, 50);
        return x;
    }

    /** By whatever way a BEST one comes to name, in what follows the other one names as NAMER. */
    private static void bestLooksAheadOnce() {
        NextButOne x = twoBest();
        x.line(0, -1);
        due("3: BEST WOULD name", x.of(0, 7), 1);
        NextButOne y = twoBest();
        due("13: BEST comes", y.come(), 0);
        line("13: BEST names", y, 1);
        NextButOne z = twoBest();
        due("14: BEST comes", z.years(1), 1);
        line("14: BEST names", z, 1);
        NextButOne w = twoBest();
        due("17: BEST names", w.ahead(2), 1);
        due("18: BEST and BEST by turns", w.ever(), 3);
        due("21: 3 doesn't come", w.has(0, 200), 0);
        w.sheet(0, 8, 4);
        fill(w, 0, 0, 1, 0, 1);
        due("36: by turns", w.read(0), 0);
    }

    private static void comeByGapZero() {
        for (int ahead = 1; ahead <= 4; ahead++) {
            for (int place = 0; place < ahead; place++) {
                NextButOne x = namers(6);
                x.rule(0, ahead);
                x.line(place, 5);
                due("13: the only one, at " + place + " of " + ahead, x.come(), 5);
                due("13: the last place is named for", x.now(1 + ahead), 0);
                due("13: no other", x.count(2), 1);
            }
            NextButOne y = namers(6);
            y.rule(0, ahead);
            y.sit(3);
            y.years(2);
            due("13: all places are for nobody", y.come(), -1);
            due("13: nobody SITS", y.now(0), -1);
            due("13: REIGN is 0", y.now(1), 0);
            due("13: nobody is named", y.count(2), 0);
            due("13: nobody RULED", y.count(3), 0);
        }
    }

    private static void comeByGapOneAndTwo() {
        for (int gap = 1; gap <= 2; gap++) {
            NextButOne x = namers(6);
            x.rule(4, gap);
            stand(x, -1, 4, -1);
            x.sit(5);
            x.years(1);
            due("13: that place is for nobody, GAP " + gap, x.come(), -1);
            due("13: REIGN is 0, GAP " + gap, x.now(1), 0);
            line("13: moved up, GAP " + gap, x, 4, -1, -1);
            due("13: the next, GAP " + gap, x.come(), 4);
            line("13: who came names, GAP " + gap, x, gap == 1 ? 0 : -1, gap == 1 ? 1 : -1, gap == 1 ? 2 : 0);
            due("13: RULED, GAP " + gap, x.of(4, 4), 1);
        }
        NextButOne y = namers(3);
        y.rule(4, 1);
        stand(y, 0, -1, -1, -1);
        due("13: GAP 1 with few", y.come(), 0);
        line("13: GAP 1, the first ones first, then there is none", y, 1, 2, -1, -1);
    }

    /** AHEAD 1: who is named is the next. */
    private static void aheadOne() {
        for (int gap = 0; gap <= 2; gap++) {
            NextButOne x = namers(3);
            x.rule(4, gap);
            stand(x, 2);
            due("13: AHEAD 1, GAP " + gap, x.come(), 2);
            line("13: AHEAD 1 names, GAP " + gap, x, 0);
            due("13: AHEAD 1 goes on, GAP " + gap, x.come(), 0);
            line("13: AHEAD 1 names again, GAP " + gap, x, 1);
        }
    }

    private static void ruledIsHowOftenOneCame() {
        NextButOne x = namers(2);
        x.rule(2, 1);
        stand(x, 0);
        x.likes(0, 1, -1);
        for (int times = 1; times <= 20; times++) {
            due("13: 0 names itself", x.come(), 0);
            due("13: RULED", x.of(0, 4), times);
        }
        x.sit(1);
        due("9: to sit down isn't to come", x.of(1, 4), 0);
        due("40: RULED of all", x.count(3), 20);
    }

    public static void main(String[] args) {
        findingsInLongs();
        atFirst();
        kinOfOneselfDoesntMatter();
        aheadBecomesAnotherNumber();
        mayNameOneself();
        mayNameNone();
        wouldNameNobody();
        namerAtTheEdges();
        friendAtTheEdges();
        spiteAtTheEdges();
        theFirstNamed();
        foolAtTheEdges();
        pactAtTheEdges();
        pactOfEachOne();
        toldAtTheEdges();
        bestAtTheEdges();
        followsAheadAndTwoTimes();
        followsWhoWasIsntAnyMore();
        followsBestAsNamer();
        bestLooksAheadOnce();
        comeByGapZero();
        comeByGapOneAndTwo();
        aheadOne();
        ruledIsHowOftenOneCame();
        end();
    }
}
