/** Each bound that the document names: the last value that is allowed and the first that isn't, on each side. */
public final class BoundsTest extends Check {
    private interface Act {
        long with(NextButOne x, int v);
    }

    /** Of each KIND one, 0 to 6, alive, none named; four sheets of 3 numbers of 8 bits; a TEXT; an image. */
    private static NextButOne seven() {
        NextButOne x = people(0, 1, 2, 3, 4, 5, 6);
        tell(x, "l+a");
        for (int s = 0; s < 4; s++) {
            x.sheet(s, 8, 3);
        }
        x.image();
        return x;
    }

    private static void refused(String what, int v, Act act, int finding) {
        NextButOne x = seven();
        due(what + " " + v, act.with(x, v), finding);
        due(what + " " + v + ": counted", x.status(-1), 1);
    }

    private static void allowed(String what, int v, Act act) {
        NextButOne x = seven();
        long answer = act.with(x, v);
        due(what + " " + v + ": no finding, but " + answer, x.status(-1), 0);
    }

    private static void bounds(String what, int least, int most, Act act) {
        allowed(what, least, act);
        allowed(what, most, act);
        refused(what, least - 1, act, BEYOND);
        refused(what, most + 1, act, BEYOND);
        refused(what, Integer.MIN_VALUE, act, BEYOND);
        refused(what, Integer.MAX_VALUE, act, BEYOND);
    }

    private static void people() {
        bounds("2: kind", 0, 6, (x, v) -> x.person(v, 30, 0));
        bounds("2: AGE", 20, 99, (x, v) -> x.person(0, v, 0));
        bounds("2: SORT", 0, 3, (x, v) -> x.person(0, 30, v));
        bounds("3: one", 0, 6, (x, v) -> x.of(v, 0));
        bounds("3: what", 0, 7, (x, v) -> x.of(0, v));
        bounds("4: one", 0, 6, (x, v) -> x.set(v, 0, 1));
        bounds("4: what", 0, 3, (x, v) -> x.set(0, v, v == 1 ? 20 : 0));
        bounds("4: KIND", 0, 6, (x, v) -> x.set(0, 0, v));
        bounds("4: AGE", 20, 99, (x, v) -> x.set(0, 1, v));
        bounds("4: SORT", 0, 3, (x, v) -> x.set(0, 2, v));
        bounds("4: KIN", 0, 1023, (x, v) -> x.set(0, 3, v));
        bounds("5: one", 0, 6, (x, v) -> x.as(v, 0));
        bounds("5: kind", 0, 6, (x, v) -> x.as(6, v));
        bounds("6: one", 0, 6, (x, v) -> x.likes(v, 3, 1));
        bounds("6: another one", 0, 6, (x, v) -> x.likes(3, v, 1));
        bounds("6: LIKES", -9, 9, (x, v) -> x.likes(0, 1, v));
        bounds("7: the SORT in the chair", 0, 3, (x, v) -> x.worth(v, 0, 1));
        bounds("7: for a SORT", 0, 3, (x, v) -> x.worth(0, v, 1));
        bounds("7: WORTH", -99, 99, (x, v) -> x.worth(0, 0, v));
    }

    private static void rules() {
        bounds("8: what", 0, 5, (x, v) -> x.rule(v, 1));
        bounds("8: AHEAD", 1, 4, (x, v) -> x.rule(0, v));
        bounds("8: TERM", 1, 40, (x, v) -> x.rule(1, v));
        bounds("8: AGAIN", 0, 1, (x, v) -> x.rule(2, v));
        bounds("8: KINS", 0, 1, (x, v) -> x.rule(3, v));
        bounds("8: GAP", 0, 2, (x, v) -> x.rule(4, v));
        bounds("8: DEATH", 0, 20, (x, v) -> x.rule(5, v));
    }

    private static int withAhead(NextButOne x, int ahead) {
        return x.rule(0, ahead);
    }

    private static void chair() {
        bounds("9: one, or nobody", -1, 6, NextButOne::sit);
        for (int ahead = 1; ahead <= 4; ahead++) {
            int k = ahead;
            bounds("10: place, AHEAD " + k, 0, k - 1, (x, v) -> withAhead(x, k) < 0 ? 0 : x.line(v, 0));
            bounds("10: place for nobody, AHEAD " + k, 0, k - 1, (x, v) -> withAhead(x, k) < 0 ? 0 : x.line(v, -1));
            bounds("16: what, AHEAD " + k, 0, 1 + k, (x, v) -> withAhead(x, k) < 0 ? 0 : x.now(v));
        }
        bounds("10: one, or nobody", -1, 6, (x, v) -> x.line(1, v));
        bounds("11: one", 0, 6, NextButOne::may);
        bounds("12: one", 0, 6, (x, v) -> x.follows(v, 3 - Integer.signum(v)));
        bounds("12: another one", 0, 6, (x, v) -> x.follows(3, v));
        bounds("14: YEARS", 1, 50, NextButOne::years);
    }

    private static void ahead() {
        bounds("17: i", 1, 200, NextButOne::ahead);
        bounds("19: what", 0, 1, NextButOne::turns);
        bounds("20: SORT", 0, 3, (x, v) -> x.share(v, 1));
        bounds("20: n", 1, 200, (x, v) -> x.share(0, v));
        bounds("21: SORT", 0, 3, (x, v) -> x.has(v, 1));
        bounds("21: n", 1, 200, (x, v) -> x.has(0, v));
        bounds("22: k", 1, 4, (x, v) -> x.but(v, 0, 1));
        bounds("22: SORT", 0, 3, (x, v) -> x.but(1, v, 1));
        bounds("22: n", 1, 200, (x, v) -> x.but(1, 0, v));
        bounds("24: one", 0, 6, (x, v) -> x.kept(v, 3, 1));
        bounds("24: another one", 0, 6, (x, v) -> x.kept(3, v, 1));
        bounds("24: n", 1, 200, (x, v) -> x.kept(0, 1, v));
        bounds("25: n", 1, 40, NextButOne::pact);
        bounds("26: one", 0, 6, (x, v) -> x.odds(v, 1));
        bounds("26: n", 1, 40, (x, v) -> x.odds(0, v));
    }

    private static void text() {
        bounds("27: n", 1, 4, (x, v) -> x.feed(0, v));
        bounds("30: one", 0, 6, (x, v) -> x.gives(v, 0));
        bounds("30: another one", 0, 6, (x, v) -> x.gives(0, v));
        for (int any : new int[] {Integer.MIN_VALUE, -1000000001, -1, 0, 1, Integer.MAX_VALUE}) {
            allowed("15: z", any, NextButOne::seed);
            allowed("27: bytes", any, (x, v) -> x.feed(v, 4));
        }
    }

    private static void sheets() {
        bounds("32: s", 0, 3, (x, v) -> x.sheet(v, 8, 1));
        for (int bits : new int[] {0, 8, 16, 64}) {
            allowed("32: bits", bits, (x, v) -> x.sheet(0, v, 1));
            refused("32: bits", bits + 1, (x, v) -> x.sheet(0, v, 1), BEYOND);
            refused("32: bits", bits - 1, (x, v) -> x.sheet(0, v, 1), BEYOND);
            allowed("32: n with bits " + bits, 0, (x, v) -> x.sheet(0, bits, v));
            allowed("32: n with bits " + bits, 40, (x, v) -> x.sheet(0, bits, v));
            refused("32: n with bits " + bits, -1, (x, v) -> x.sheet(0, bits, v), SIZE);
            refused("32: n with bits " + bits, Integer.MIN_VALUE, (x, v) -> x.sheet(0, bits, v), SIZE);
            refused("32: n with bits " + bits, 41, (x, v) -> x.sheet(0, bits, v), BEYOND);
            refused("32: n with bits " + bits, Integer.MAX_VALUE, (x, v) -> x.sheet(0, bits, v), BEYOND);
        }
        refused("32: bits", 32, (x, v) -> x.sheet(0, v, 1), BEYOND);
        refused("32: bits", -8, (x, v) -> x.sheet(0, v, 1), BEYOND);
        refused("32: bits", Integer.MIN_VALUE, (x, v) -> x.sheet(0, v, 1), BEYOND);
        refused("32: bits", Integer.MAX_VALUE, (x, v) -> x.sheet(0, v, 1), BEYOND);
        bounds("33: s", 0, 3, (x, v) -> x.write(v, 0, 1));
        bounds("33: i of 3", 0, 2, (x, v) -> x.write(0, v, 1));
        bounds("33: i of 1", 0, 0, (x, v) -> x.sheet(1, 16, 1) + x.write(1, v, 1) - 1);
        bounds("33: i of 40", 0, 39, (x, v) -> x.sheet(1, 64, 40) + x.write(1, v, 1) - 40);
        refused("33: i of none", 0, (x, v) -> x.sheet(1, 64, 0) + x.write(1, v, 1), BEYOND);
        bounds("34: s", 0, 3, (x, v) -> x.copy(v, 0, 1, 0, 1));
        bounds("34: t", 0, 3, (x, v) -> x.copy(1, 0, v, 0, 1));
        bounds("34: from, for 1", 0, 2, (x, v) -> x.copy(0, v, 1, 0, 1));
        bounds("34: from, for none", 0, 3, (x, v) -> x.copy(0, v, 1, 0, 0));
        bounds("34: to, for 1", 0, 2, (x, v) -> x.copy(0, 0, 1, v, 1));
        bounds("34: to, for none", 0, 3, (x, v) -> x.copy(0, 0, 1, v, 0));
        bounds("34: n", 0, 3, (x, v) -> x.copy(0, 0, 1, 0, v));
        bounds("34: n from 1 on", 0, 2, (x, v) -> x.copy(0, 1, 1, 0, v));
        bounds("34: n to 2", 0, 1, (x, v) -> x.copy(0, 0, 1, 2, v));
        bounds("35: s", 0, 3, (x, v) -> x.lays(v, 0));
        bounds("35: one", 0, 6, (x, v) -> x.lays(0, v));
        bounds("36: s", 0, 3, NextButOne::read);
    }

    private static void images() {
        bounds("40: what", 0, 5, NextButOne::count);
        bounds("41: which", -1, 6, NextButOne::status);
    }

    /** Of no PEOPLE there is no 0, of ten a 9 but no 10; one more makes the next number one of them. */
    private static void ones() {
        Act[] acts = {(x, v) -> x.of(v, 0), (x, v) -> x.set(v, 0, 0), (x, v) -> x.as(v, 0), NextButOne::sit,
            (x, v) -> x.line(0, v), NextButOne::may, (x, v) -> x.odds(v, 1), (x, v) -> x.lays(0, v),
            (x, v) -> x.gives(v, v)};
        for (int i = 0; i < acts.length; i++) {
            for (int n : new int[] {0, 1, 9, 10}) {
                NextButOne x = namers(n);
                x.sheet(0, 8, 0);
                tell(x, "0");
                due("ones of " + n + ", act " + i + ": one more", acts[i].with(x, n), BEYOND);
                due("ones of " + n + ", act " + i + ": the last", n == 0 || acts[i].with(x, n - 1) >= -1 ? 1 : 0, 1);
                due("ones of " + n + ", act " + i + ": counted", x.status(-1), 1);
            }
        }
        NextButOne x = namers(9);
        due("2: 9 isn't one of nine", x.may(9), BEYOND);
        due("2: the tenth", x.person(0, 20, 0), 9);
        due("2: 9 is one of ten", x.may(9), 511);
        due("2: FULL", x.person(0, 20, 0), FULL);
        due("2: 10 isn't one of ten", x.may(10), BEYOND);
    }

    /** One and the same isn't another one. */
    private static void oneAndTheSame() {
        for (int one = 0; one < 7; one++) {
            refused("6: one and the same", one, (x, v) -> x.likes(v, v, 1), BEYOND);
            refused("24: one and the same", one, (x, v) -> x.kept(v, v, 1), BEYOND);
            refused("12: not oneself", one, (x, v) -> x.follows(v, v), STATE);
            allowed("30: one and the same may be", one, (x, v) -> x.gives(v, v));
        }
    }

    public static void main(String[] args) {
        people();
        rules();
        chair();
        ahead();
        text();
        sheets();
        images();
        ones();
        oneAndTheSame();
        end();
    }
}
