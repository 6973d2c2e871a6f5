import java.util.ArrayList;
import java.util.List;

/** A call that answers a finding answers the first that holds, and changes nothing but status(). */
public final class RefusedTest extends Check {
    private interface Act {
        long on(NextButOne x);
    }

    private interface Start {
        NextButOne make();
    }

    /**
     * Ten PEOPLE, 9 of them DEAD; 0 SITS, THE LINE is 1, nobody, 2; 78 bytes on THE TAPE; a TEXT; sheets 0 to 2 of 8,
     * 16 and 64 bits, 3 is MISSING; the image kept differs in much.
     */
    private static NextButOne crowd() {
        NextButOne x = new NextButOne();
        for (int i = 0; i < 9; i++) {
            x.person(i % 7, 20 + i, i % 4);
        }
        x.person(0, 99, 1);
        x.seed(77);
        tell(x, "a*2");
        x.image();
        x.rule(5, 20);
        x.years(1);
        x.rule(5, 3);
        x.rule(1, 5);
        x.rule(4, 2);
        stand(x, 1, -1, 2);
        x.sit(0);
        x.years(2);
        x.set(4, 3, 1 << 5);
        x.worth(0, 1, 40);
        x.worth(1, 0, -30);
        x.worth(2, 2, 20);
        for (int i = 0; i < 9; i++) {
            x.likes(i, (i + 3) % 10, i - 4);
            x.likes(i, (i + 7) % 10, 9 - i);
        }
        tell(x, "l*3+w-r");
        feed(x, "12" + "+l".repeat(38));
        x.sheet(0, 8, 3);
        x.sheet(1, 16, 2);
        x.sheet(2, 64, 4);
        fill(x, 0, 1, -1, 4);
        fill(x, 1, 300, -9);
        fill(x, 2, 1L << 40, 2, 3, Long.MIN_VALUE);
        return x;
    }

    /** All that can be seen of an object but status(); it is used up by that. */
    private static List<Long> seen(NextButOne x) {
        List<Long> all = new ArrayList<>();
        seeTraits(x, all);
        int people = x.count(0);
        for (int one = 0; one < people; one++) {
            all.add((long) x.of(one, 7));
            all.add((long) x.gives(one, (one + 1) % people));
            for (int other = 0; other < people; other++) {
                if (other != one) {
                    all.add((long) x.likes(one, other, 0));
                }
            }
        }
        for (int i = 0; i < 16; i++) {
            all.add((long) x.worth(i / 4, i % 4, 0));
        }
        for (int what = 1; what < 6; what++) {
            all.add((long) x.rule(what, 1));
        }
        all.add((long) x.rule(0, 2));
        for (int s = 0; s < 4; s++) {
            for (int i = 0; i < 5; i++) {
                all.add(x.write(s, i, 0));
            }
        }
        all.add((long) x.text());
        all.add((long) x.gives(0, 1));
        all.add((long) x.undo());
        seeTraits(x, all);
        all.add((long) x.gives(0, 1));
        all.add((long) x.untell());
        all.add((long) x.tear());
        return all;
    }

    private static void seeTraits(NextButOne x, List<Long> all) {
        for (int what = 0; what < 6; what++) {
            all.add((long) x.count(what));
        }
        for (int what = 0; what < 6; what++) {
            all.add((long) x.now(what));
        }
        int people = x.count(0);
        for (int one = 0; one < people; one++) {
            for (int what = 0; what < 7; what++) {
                all.add((long) x.of(one, what));
            }
        }
    }

    private static void alike(String what, NextButOne x, NextButOne y) {
        List<Long> got = seen(x);
        List<Long> want = seen(y);
        due(what + ": as much is seen", got.size(), want.size());
        for (int i = 0; i < Math.min(got.size(), want.size()); i++) {
            due(what + ": what is seen at " + i, got.get(i), want.get(i));
        }
    }

    private static void refused(String what, Start start, int finding, Act act) {
        NextButOne x = start.make();
        NextButOne y = start.make();
        due(what, act.on(x), finding);
        for (int which = 0; which < 7; which++) {
            int more = which == BEYOND - finding ? 1 : 0;
            due(what + ": status " + which, x.status(which), y.status(which) + more);
        }
        due(what + ": status of all", x.status(-1), y.status(-1) + 1);
        alike(what, x, y);
    }

    private static void inCrowd(String what, int finding, Act act) {
        refused(what, RefusedTest::crowd, finding, act);
    }

    private static void inNew(String what, int finding, Act act) {
        refused(what, NextButOne::new, finding, act);
    }

    private static void people() {
        inCrowd("2: kind, ahead of FULL", BEYOND, x -> x.person(7, 30, 0));
        inCrowd("2: age, ahead of FULL", BEYOND, x -> x.person(0, 19, 0));
        inCrowd("2: sort, ahead of FULL", BEYOND, x -> x.person(0, 30, 4));
        inCrowd("2: FULL", FULL, x -> x.person(0, 30, 0));
        inNew("2: kind", BEYOND, x -> x.person(-1, 30, 0));
        inCrowd("3: no such one", BEYOND, x -> x.of(10, 0));
        inCrowd("3: no such what", BEYOND, x -> x.of(0, 8));
        inCrowd("3: no such what of a DEAD one", BEYOND, x -> x.of(9, -1));
        inCrowd("4: no such one", BEYOND, x -> x.set(10, 1, 50));
        inCrowd("4: no such what", BEYOND, x -> x.set(0, 4, 1));
        inCrowd("4: no such KIND", BEYOND, x -> x.set(0, 0, 7));
        inCrowd("4: no such AGE", BEYOND, x -> x.set(0, 1, 100));
        inCrowd("4: no such SORT", BEYOND, x -> x.set(0, 2, -1));
        inCrowd("4: no such KIN", BEYOND, x -> x.set(0, 3, 1024));
        inCrowd("5: no such one", BEYOND, x -> x.as(10, 1));
        inCrowd("5: no such kind, ahead of KIND", BEYOND, x -> x.as(0, 7));
        inCrowd("5: KIND", KIND, x -> x.as(0, 1));
        inCrowd("5: KIND of a DEAD one", KIND, x -> x.as(9, 6));
        inCrowd("6: no such one", BEYOND, x -> x.likes(10, 0, 1));
        inCrowd("6: no such other", BEYOND, x -> x.likes(0, 10, 1));
        inCrowd("6: one and the same", BEYOND, x -> x.likes(3, 3, 1));
        inCrowd("6: too much", BEYOND, x -> x.likes(0, 3, 10));
        inCrowd("7: no such SORT", BEYOND, x -> x.worth(4, 1, 1));
        inCrowd("7: too much", BEYOND, x -> x.worth(0, 1, 100));
        inCrowd("8: no such RULE", BEYOND, x -> x.rule(6, 1));
        inCrowd("8: AHEAD 0", BEYOND, x -> x.rule(0, 0));
        inCrowd("8: AHEAD 5", BEYOND, x -> x.rule(0, 5));
        inCrowd("8: GAP 3", BEYOND, x -> x.rule(4, 3));
    }

    private static void chair() {
        inCrowd("9: no such one", BEYOND, x -> x.sit(10));
        inCrowd("9: -2", BEYOND, x -> x.sit(-2));
        inCrowd("9: DEAD", STATE, x -> x.sit(9));
        inCrowd("9: first in THE LINE", STATE, x -> x.sit(1));
        inCrowd("9: last in THE LINE", STATE, x -> x.sit(2));
        inCrowd("10: place, ahead of a DEAD one", BEYOND, x -> x.line(3, 9));
        inCrowd("10: place -1, ahead of one in THE LINE", BEYOND, x -> x.line(-1, 1));
        inCrowd("10: place, ahead of who SITS", BEYOND, x -> x.line(4, 0));
        inCrowd("10: no such place for nobody", BEYOND, x -> x.line(3, -1));
        inCrowd("10: no such one", BEYOND, x -> x.line(0, 10));
        inCrowd("10: -2", BEYOND, x -> x.line(0, -2));
        inCrowd("10: DEAD", STATE, x -> x.line(1, 9));
        inCrowd("10: in THE LINE at another place", STATE, x -> x.line(1, 2));
        inCrowd("10: in THE LINE, also there", STATE, x -> x.line(0, 1));
        inCrowd("10: SITS", STATE, x -> x.line(1, 0));
        inCrowd("11: no such one", BEYOND, x -> x.may(10));
        inCrowd("11: DEAD", STATE, x -> x.may(9));
        inCrowd("12: no such one", BEYOND, x -> x.follows(10, 3));
        inCrowd("12: no such other, ahead of DEAD", BEYOND, x -> x.follows(9, 10));
        inCrowd("12: no such one, ahead of MAY not", BEYOND, x -> x.follows(-1, 9));
        inCrowd("12: DEAD", STATE, x -> x.follows(9, 3));
        inCrowd("12: MAY not: DEAD", STATE, x -> x.follows(3, 9));
        inCrowd("12: MAY not: in THE LINE", STATE, x -> x.follows(3, 1));
        inCrowd("12: MAY not: SITS", STATE, x -> x.follows(3, 0));
        inCrowd("12: MAY not: KIN", STATE, x -> x.follows(4, 5));
        inCrowd("12: MAY not: oneself", STATE, x -> x.follows(0, 0));
        inCrowd("14: none", BEYOND, x -> x.years(0));
        inCrowd("14: 51", BEYOND, x -> x.years(51));
        inCrowd("16: place 3", BEYOND, x -> x.now(5));
        inCrowd("16: -1", BEYOND, x -> x.now(-1));
    }

    private static void ahead() {
        inCrowd("17: 0", BEYOND, x -> x.ahead(0));
        inCrowd("17: 201", BEYOND, x -> x.ahead(201));
        inCrowd("19: 2", BEYOND, x -> x.turns(2));
        inCrowd("20: SORT", BEYOND, x -> x.share(4, 1));
        inCrowd("20: n", BEYOND, x -> x.share(0, 201));
        inCrowd("21: SORT", BEYOND, x -> x.has(4, 1));
        inCrowd("21: n", BEYOND, x -> x.has(0, 201));
        inCrowd("22: k", BEYOND, x -> x.but(5, 0, 1));
        inCrowd("22: SORT", BEYOND, x -> x.but(1, 4, 1));
        inCrowd("22: n", BEYOND, x -> x.but(1, 0, 201));
        inNew("23: nobody is alive", NONE, NextButOne::vote);
        inCrowd("24: one and the same, ahead of DEAD", BEYOND, x -> x.kept(9, 9, 5));
        inCrowd("24: no such other, ahead of DEAD", BEYOND, x -> x.kept(9, 10, 5));
        inCrowd("24: no such one, ahead of DEAD", BEYOND, x -> x.kept(10, 9, 5));
        inCrowd("24: n, ahead of DEAD", BEYOND, x -> x.kept(9, 1, 0));
        inCrowd("24: the first is DEAD", STATE, x -> x.kept(9, 1, 5));
        inCrowd("24: the other is DEAD", STATE, x -> x.kept(1, 9, 5));
        inCrowd("25: n", BEYOND, x -> x.pact(41));
        inNew("25: n, ahead of NONE", BEYOND, x -> x.pact(0));
        inNew("25: n 41, ahead of NONE", BEYOND, x -> x.pact(41));
        inNew("25: not two are alive", NONE, x -> x.pact(1));
        inCrowd("26: no such one", BEYOND, x -> x.odds(10, 1));
        inCrowd("26: n", BEYOND, x -> x.odds(0, 41));
    }

    /** TOLD ones by whose TEXT nothing comes again within 300 CHAIRS. */
    private static NextButOne wanderers() {
        NextButOne x = people(5, 5, 5, 5, 5, 5, 5, 5, 5, 5);
        tell(x, "-r*22+(r*5790*a+a*4518+r*r*218)%49");
        stand(x, 0, 1, 2, 3);
        return x;
    }

    private static void nothingComesAgain() {
        refused("18: NONE", RefusedTest::wanderers, NONE, NextButOne::ever);
        refused("19: NONE, first", RefusedTest::wanderers, NONE, x -> x.turns(0));
        refused("19: NONE, again", RefusedTest::wanderers, NONE, x -> x.turns(1));
        refused("19: BEYOND, ahead of NONE", RefusedTest::wanderers, BEYOND, x -> x.turns(-1));
    }

    private static void text() {
        inCrowd("27: n 0", BEYOND, x -> x.feed(0x6c6c6c6c, 0));
        inCrowd("27: n 5, ahead of FULL", BEYOND, x -> x.feed(0x6c6c6c6c, 5));
        inCrowd("27: FULL by 1", FULL, x -> x.feed(0x6c6c6c6c, 3));
        inCrowd("27: FULL by 2", FULL, x -> x.feed(0x6c6c6c6c, 4));
        inCrowd("30: no such one", BEYOND, x -> x.gives(10, 0));
        inCrowd("30: no such other", BEYOND, x -> x.gives(0, 10));
        refused("30: BEYOND, ahead of NONE", () -> namers(2), BEYOND, x -> x.gives(0, 2));
        refused("30: NONE", () -> namers(2), NONE, x -> x.gives(0, 1));
    }

    private static void sheets() {
        inCrowd("32: no such sheet, ahead of SIZE", BEYOND, x -> x.sheet(4, 8, -1));
        inCrowd("32: other bits, ahead of SIZE", BEYOND, x -> x.sheet(0, 32, -1));
        inCrowd("32: SIZE", SIZE, x -> x.sheet(0, 8, -1));
        inCrowd("32: SIZE with bits 0", SIZE, x -> x.sheet(0, 0, -1));
        inCrowd("32: SIZE of a sheet that is MISSING", SIZE, x -> x.sheet(3, 8, -1));
        inCrowd("32: 41", BEYOND, x -> x.sheet(0, 8, 41));
        inCrowd("32: 41 with bits 0", BEYOND, x -> x.sheet(0, 0, 41));
        inCrowd("32: 41 for a sheet that is MISSING", BEYOND, x -> x.sheet(3, 8, 41));
        inCrowd("33: no such sheet", BEYOND, x -> x.write(4, 0, 7));
        inCrowd("33: MISSING, ahead of no such number", MISSING, x -> x.write(3, -1, 7));
        inCrowd("33: MISSING", MISSING, x -> x.write(3, 0, 7));
        inCrowd("33: no such number", BEYOND, x -> x.write(0, 3, 7));
        inCrowd("33: -1", BEYOND, x -> x.write(2, -1, 7));
        inCrowd("34: no such sheet, ahead of MISSING", BEYOND, x -> x.copy(4, 0, 3, 0, 1));
        inCrowd("34: no such other sheet, ahead of MISSING", BEYOND, x -> x.copy(3, 0, -1, 0, 1));
        inCrowd("34: no such sheet, ahead of KIND", BEYOND, x -> x.copy(0, 0, 4, 0, 1));
        inCrowd("34: MISSING, ahead of KIND", MISSING, x -> x.copy(3, 0, 0, 0, 1));
        inCrowd("34: the other is MISSING, ahead of KIND", MISSING, x -> x.copy(0, 0, 3, 0, 1));
        inCrowd("34: both are MISSING, ahead of not so many", MISSING, x -> x.copy(3, 0, 3, 0, -1));
        inCrowd("34: KIND, ahead of not so many", KIND, x -> x.copy(0, 0, 1, 0, 9));
        inCrowd("34: KIND, ahead of below 0", KIND, x -> x.copy(1, -1, 2, -1, -1));
        inCrowd("34: KIND of none", KIND, x -> x.copy(0, 0, 2, 0, 0));
        inCrowd("34: the one has not so many", BEYOND, x -> x.copy(2, 2, 2, 0, 3));
        inCrowd("34: the other has not so many", BEYOND, x -> x.copy(2, 0, 2, 2, 3));
        inCrowd("34: from is below 0", BEYOND, x -> x.copy(2, -1, 2, 0, 2));
        inCrowd("34: to is below 0", BEYOND, x -> x.copy(2, 0, 2, -1, 2));
        inCrowd("34: n is below 0", BEYOND, x -> x.copy(2, 1, 2, 1, -1));
        inCrowd("35: no such sheet, ahead of no such one", BEYOND, x -> x.lays(4, 10));
        inCrowd("35: MISSING, ahead of no such one", MISSING, x -> x.lays(3, 10));
        inCrowd("35: MISSING", MISSING, x -> x.lays(3, 0));
        inCrowd("35: no such one", BEYOND, x -> x.lays(0, 10));
        inCrowd("36: no such sheet", BEYOND, x -> x.read(4));
        inCrowd("36: MISSING", MISSING, x -> x.read(3));
    }

    private static void images() {
        inNew("38: nothing is kept", NONE, NextButOne::undo);
        refused("38: nothing is kept any more", () -> {
            NextButOne x = crowd();
            x.tear();
            return x;
        }, NONE, NextButOne::undo);
        inCrowd("40: another what", BEYOND, x -> x.count(6));
        inCrowd("41: another one", BEYOND, x -> x.status(7));
        inCrowd("41: -2", BEYOND, x -> x.status(-2));
    }

    /** Acts that only tell, or try, leave all as it was, and status() too. */
    private static void onlyTold() {
        Act[] acts = {x -> x.of(6, 7), x -> x.of(9, 7), x -> x.as(2, 1), x -> x.may(0), x -> x.follows(6, 4),
            x -> x.now(2), x -> x.ahead(200), NextButOne::ever, x -> x.turns(0), x -> x.share(0, 200),
            x -> x.has(1, 200), x -> x.but(1, 1, 200), x -> x.but(4, 1, 200), NextButOne::vote,
            x -> x.kept(0, 6, 200), x -> x.pact(40), x -> x.odds(1, 40), x -> x.gives(6, 1), x -> x.read(0),
            x -> x.count(3), x -> x.status(-1), x -> x.copy(0, 0, 0, 0, 3), x -> x.copy(2, 4, 2, 4, 0)};
        for (int i = 0; i < acts.length; i++) {
            NextButOne x = crowd();
            NextButOne y = crowd();
            acts[i].on(x);
            due("told " + i + ": no finding", x.status(-1), y.status(-1));
            alike("told " + i, x, y);
        }
    }

    /** A FAULT is no finding; nothing changes but that THE TAPE is empty. */
    private static void fault() {
        NextButOne x = crowd();
        NextButOne y = crowd();
        x.feed('*', 1);
        y.feed('*', 1);
        due("29: a FAULT", x.text(), -1 - 79);
        due("28: wiped", y.wipe(), 79);
        due("29: no finding", x.status(-1), y.status(-1));
        alike("29: a FAULT", x, y);
    }

    public static void main(String[] args) {
        people();
        chair();
        ahead();
        nothingComesAgain();
        text();
        sheets();
        images();
        onlyTold();
        fault();
        end();
    }
}
