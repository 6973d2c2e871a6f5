import java.util.Arrays;

/** A chair in which whoever comes to sit names the next but one. */
public final class NextButOne {
    private static final int BEYOND = -1000000001;
    private static final int FULL = -1000000002;
    private static final int KIND = -1000000003;
    private static final int NONE = -1000000004;
    private static final int STATE = -1000000005;
    private static final int MISSING = -1000000006;
    private static final int SIZE = -1000000007;
    private static final int FINDINGS = 7;

    private static final int NOBODY = -1;
    private static final int MOST_PEOPLE = 10;
    private static final int SORTS = 4;
    private static final int LEAST_AGE = 20;
    private static final int MOST_AGE = 99;
    private static final int MOST_LIKING = 9;
    private static final int MOST_WORTH = 99;

    private static final int NAMER = 0;
    private static final int FRIEND = 1;
    private static final int SPITE = 2;
    private static final int FOOL = 3;
    private static final int PACT = 4;
    private static final int TOLD = 5;
    private static final int BEST = 6;
    private static final int KINDS = 7;
    private static final int[] KIND_ABOVE = {NOBODY, NAMER, FRIEND, NAMER, NAMER, NAMER, NAMER};

    private static final int AHEAD = 0;
    private static final int TERM = 1;
    private static final int AGAIN = 2;
    private static final int KINS = 3;
    private static final int GAP = 4;
    private static final int DEATH = 5;
    private static final int RULES = 6;
    private static final int[] RULE_LEAST = {1, 1, 0, 0, 0, 0};
    private static final int[] RULE_MOST = {4, 40, 1, 1, 2, 20};
    private static final int MOST_PLACES = 4;

    private static final int MOST_YEARS = 50;
    private static final int MOST_CHAIRS = 200;
    private static final int MOST_PACT_CHAIRS = 40;
    private static final int MOST_EVER_CHAIRS = 300;
    private static final int MOST_TRIALS = 40;
    private static final int MOST_TRIAL_YEARS = 200;
    /** BEST ones look at what follows once; in that trial (0) they name as NAMERS. */
    private static final int LOOKING = 1;

    private static final int TAPE = 80;
    private static final int MOST_OPEN = 5;
    private static final int MOST_DIGITS = 4;
    private static final String NAMES = "laswrn";
    /** What - ahead of a Q is kept as, to tell it from - between two. */
    private static final char LESS = '~';

    private static final int SHEETS = 4;
    private static final int MOST_NUMBERS = 40;

    private final Realm realm = new Realm();
    private final Realm image = new Realm();
    private final Realm later = new Realm();
    private final Chairs chairs = new Chairs(realm);
    private final Tape tape = new Tape();
    private final Sheet[] sheets = new Sheet[SHEETS];
    private final int[] found = new int[FINDINGS];
    private boolean imageKept = false;

    public NextButOne() {
        for (int s = 0; s < SHEETS; s++) {
            sheets[s] = new Sheet();
        }
    }

    // ---- people

    public int person(int kind, int age, int sort) {
        if (!within(kind, 0, KINDS - 1) || !within(age, LEAST_AGE, MOST_AGE) || !isSort(sort)) {
            return finding(BEYOND);
        }
        if (realm.folk.people >= MOST_PEOPLE) {
            return finding(FULL);
        }
        return realm.folk.join(kind, age, sort);
    }

    public int of(int person, int what) {
        if (!isOne(person) || !within(what, 0, 7)) {
            return finding(BEYOND);
        }
        switch (what) {
            case 4:
                return realm.seat.ruled[person];
            case 5:
                return realm.folk.isAlive(person) ? 0 : 1;
            case 6:
                return realm.seat.placeOf(person);
            case 7:
                return realm.seat.choice(person, LOOKING);
            default:
                return realm.folk.trait(what)[person];
        }
    }

    public int set(int person, int what, int v) {
        if (!isOne(person) || !isTrait(what, v)) {
            return finding(BEYOND);
        }
        int[] trait = realm.folk.trait(what);
        int was = trait[person];
        trait[person] = v;
        return was;
    }

    public int as(int person, int kind) {
        if (!isOne(person) || !within(kind, 0, KINDS - 1)) {
            return finding(BEYOND);
        }
        if (!isUnder(realm.folk.kind[person], kind)) {
            return finding(KIND);
        }
        return realm.seat.ruled[person];
    }

    public int likes(int one, int other, int v) {
        if (!areTwo(one, other) || !within(v, -MOST_LIKING, MOST_LIKING)) {
            return finding(BEYOND);
        }
        int at = one * MOST_PEOPLE + other;
        int was = realm.folk.liking[at];
        realm.folk.liking[at] = v;
        return was;
    }

    public int worth(int sits, int sort, int v) {
        if (!isSort(sits) || !isSort(sort) || !within(v, -MOST_WORTH, MOST_WORTH)) {
            return finding(BEYOND);
        }
        int at = sits * SORTS + sort;
        int was = realm.folk.value[at];
        realm.folk.value[at] = v;
        return was;
    }

    public int rule(int what, int v) {
        if (!within(what, 0, RULES - 1) || !within(v, RULE_LEAST[what], RULE_MOST[what])) {
            return finding(BEYOND);
        }
        int was = realm.seat.rules[what];
        realm.seat.giveRule(what, v);
        return was;
    }

    // ---- the chair

    public int sit(int person) {
        if (person != NOBODY && !isOne(person)) {
            return finding(BEYOND);
        }
        if (person != NOBODY && (!realm.folk.isAlive(person) || realm.seat.placeOf(person) >= 0)) {
            return finding(STATE);
        }
        int was = realm.seat.sits;
        realm.seat.sits = person;
        realm.seat.reign = 0;
        return was;
    }

    public int line(int place, int person) {
        if (!isPlace(place) || (person != NOBODY && !isOne(person))) {
            return finding(BEYOND);
        }
        if (person != NOBODY && !mayStandInLine(person)) {
            return finding(STATE);
        }
        int was = realm.seat.line[place];
        realm.seat.line[place] = person;
        return was;
    }

    public int may(int person) {
        if (!isOne(person)) {
            return finding(BEYOND);
        }
        if (!realm.folk.isAlive(person)) {
            return finding(STATE);
        }
        return realm.seat.allowed(person);
    }

    public int follows(int person, int other) {
        if (!isOne(person) || !isOne(other)) {
            return finding(BEYOND);
        }
        if (!realm.folk.isAlive(person) || !isIn(realm.seat.allowed(person), other)) {
            return finding(STATE);
        }
        return realm.seat.whatFollows(person, other, LOOKING);
    }

    public int come() {
        return realm.seat.next(LOOKING);
    }

    public int years(int n) {
        if (!within(n, 1, MOST_YEARS)) {
            return finding(BEYOND);
        }
        int came = 0;
        for (int i = 0; i < n; i++) {
            if (realm.seat.year()) {
                came++;
            }
        }
        return came;
    }

    public int seed(int v) {
        int was = realm.folk.z;
        realm.folk.z = v;
        return was;
    }

    public int now(int what) {
        if (what == 0) {
            return realm.seat.sits;
        }
        if (what == 1) {
            return realm.seat.reign;
        }
        if (what < 2 || !isPlace(what - 2)) {
            return finding(BEYOND);
        }
        return realm.seat.line[what - 2];
    }

    // ---- ahead

    public int ahead(int i) {
        if (!isChairs(i)) {
            return finding(BEYOND);
        }
        chairs.start();
        int who = NOBODY;
        for (int chair = 0; chair < i; chair++) {
            who = chairs.trial.next(LOOKING);
        }
        return who;
    }

    public int ever() {
        if (!chairs.goRound()) {
            return finding(NONE);
        }
        return chairs.whoGoesRound();
    }

    public int turns(int what) {
        if (!within(what, 0, 1)) {
            return finding(BEYOND);
        }
        if (!chairs.goRound()) {
            return finding(NONE);
        }
        return what == 0 ? chairs.first : chairs.again - chairs.first;
    }

    public int share(int sort, int n) {
        if (!isSort(sort) || !isChairs(n)) {
            return finding(BEYOND);
        }
        chairs.start();
        chairs.tally(n);
        return chairs.ofSort[sort];
    }

    public int has(int sort, int n) {
        if (!isSort(sort) || !isChairs(n)) {
            return finding(BEYOND);
        }
        chairs.start();
        chairs.tally(n);
        return chairs.worthFor(sort);
    }

    public int but(int k, int sort, int n) {
        if (!within(k, RULE_LEAST[AHEAD], RULE_MOST[AHEAD]) || !isSort(sort) || !isChairs(n)) {
            return finding(BEYOND);
        }
        chairs.start();
        chairs.trial.giveRule(AHEAD, k);
        chairs.tally(n);
        return chairs.worthFor(sort);
    }

    public int vote() {
        int best = NOBODY;
        int most = 0;
        for (int one = 0; one < realm.folk.people; one++) {
            if (realm.folk.isAlive(one)) {
                int liked = realm.folk.likedByOthers(one);
                if (best == NOBODY || liked > most) {
                    best = one;
                    most = liked;
                }
            }
        }
        return best == NOBODY ? finding(NONE) : best;
    }

    public int kept(int one, int other, int n) {
        if (!areTwo(one, other) || !isChairs(n)) {
            return finding(BEYOND);
        }
        if (!realm.folk.isAlive(one) || !realm.folk.isAlive(other)) {
            return finding(STATE);
        }
        chairs.start();
        chairs.tally(n);
        chairs.noteWithout();
        chairs.start();
        chairs.trial.keepWord(one, other);
        chairs.tally(n);
        return chairs.moreFor(one);
    }

    public int pact(int n) {
        if (!within(n, 1, MOST_PACT_CHAIRS)) {
            return finding(BEYOND);
        }
        if (Integer.bitCount(realm.folk.alive()) < 2) {
            return finding(NONE);
        }
        chairs.start();
        chairs.tally(n);
        chairs.noteWithout();
        int best = NOBODY;
        int most = 0;
        for (int one = 0; one < realm.folk.people; one++) {
            for (int other = one + 1; other < realm.folk.people; other++) {
                if (realm.folk.isAlive(one) && realm.folk.isAlive(other)) {
                    chairs.start();
                    chairs.trial.keepWord(one, other);
                    chairs.tally(n);
                    int more = chairs.moreFor(one) + chairs.moreFor(other);
                    if (best == NOBODY || more > most) {
                        best = 10 * one + other;
                        most = more;
                    }
                }
            }
        }
        return best;
    }

    public int odds(int person, int n) {
        if (!isOne(person) || !within(n, 1, MOST_TRIALS)) {
            return finding(BEYOND);
        }
        int times = 0;
        int z = realm.folk.z;
        for (int i = 0; i < n; i++) {
            later.takeFrom(realm);
            later.folk.z = z;
            boolean came = false;
            for (int year = 0; year < MOST_TRIAL_YEARS && !came; year++) {
                came = later.seat.year();
            }
            if (came && later.seat.sits == person) {
                times++;
            }
            z = later.folk.z;
        }
        return times;
    }

    // ---- the text

    public int feed(int bytes, int n) {
        if (!within(n, 1, 4)) {
            return finding(BEYOND);
        }
        if (tape.size + n > TAPE) {
            return finding(FULL);
        }
        for (int i = n - 1; i >= 0; i--) {
            tape.put((bytes >>> (8 * i)) & 255);
        }
        return tape.size;
    }

    public int wipe() {
        int had = tape.size;
        tape.size = 0;
        return had;
    }

    public int text() {
        boolean right = tape.parse();
        tape.size = 0;
        if (!right) {
            return -1 - tape.at;
        }
        realm.script.takeFrom(tape.draft);
        return 1;
    }

    public int gives(int person, int other) {
        if (!isOne(person) || !isOne(other)) {
            return finding(BEYOND);
        }
        if (!realm.script.isThere()) {
            return finding(NONE);
        }
        return realm.script.work(realm.seat, person, other);
    }

    public int untell() {
        int was = realm.script.isThere() ? 1 : 0;
        realm.script.length = 0;
        return was;
    }

    // ---- sheets

    public int sheet(int s, int bits, int n) {
        if (!isSheet(s) || (bits != 0 && bits != 8 && bits != 16 && bits != 64)) {
            return finding(BEYOND);
        }
        if (n < 0) {
            return finding(SIZE);
        }
        if (n > MOST_NUMBERS) {
            return finding(BEYOND);
        }
        sheets[s].lay(bits, bits == 0 ? 0 : n);
        return sheets[s].length;
    }

    public long write(int s, int i, long v) {
        if (!isSheet(s)) {
            return finding(BEYOND);
        }
        if (sheets[s].isMissing()) {
            return finding(MISSING);
        }
        if (!within(i, 0, sheets[s].length - 1)) {
            return finding(BEYOND);
        }
        long was = sheets[s].numbers[i];
        sheets[s].numbers[i] = sheets[s].lowest(v);
        return was;
    }

    public int copy(int s, int from, int t, int to, int n) {
        if (!isSheet(s) || !isSheet(t)) {
            return finding(BEYOND);
        }
        if (sheets[s].isMissing() || sheets[t].isMissing()) {
            return finding(MISSING);
        }
        if (sheets[s].bits != sheets[t].bits) {
            return finding(KIND);
        }
        if (!sheets[s].holds(from, n) || !sheets[t].holds(to, n)) {
            return finding(BEYOND);
        }
        System.arraycopy(sheets[s].numbers, from, sheets[t].numbers, to, n);
        return n;
    }

    public int lays(int s, int person) {
        if (!isSheet(s)) {
            return finding(BEYOND);
        }
        if (sheets[s].isMissing()) {
            return finding(MISSING);
        }
        if (!isOne(person)) {
            return finding(BEYOND);
        }
        int came = 0;
        int end = Math.min(sheets[s].length, realm.folk.people);
        for (int i = 0; i < end; i++) {
            long v = sheets[s].numbers[i];
            if (i != person && v >= -MOST_LIKING && v <= MOST_LIKING) {
                realm.folk.liking[person * MOST_PEOPLE + i] = (int) v;
                came++;
            }
        }
        return came;
    }

    public int read(int s) {
        if (!isSheet(s)) {
            return finding(BEYOND);
        }
        if (sheets[s].isMissing()) {
            return finding(MISSING);
        }
        chairs.start();
        for (int i = 0; i < sheets[s].length; i++) {
            if (sheets[s].numbers[i] != chairs.trial.next(LOOKING)) {
                return 1 + i;
            }
        }
        return 0;
    }

    // ---- images

    public int image() {
        image.takeFrom(realm);
        imageKept = true;
        return 1;
    }

    public int undo() {
        if (!imageKept) {
            return finding(NONE);
        }
        realm.takeFrom(image);
        return realm.folk.people;
    }

    public int tear() {
        int was = imageKept ? 1 : 0;
        imageKept = false;
        return was;
    }

    public int count(int what) {
        switch (what) {
            case 0:
                return realm.folk.people;
            case 1:
                return Integer.bitCount(realm.folk.alive());
            case 2:
                return Integer.bitCount(realm.seat.named());
            case 3:
                return realm.seat.ruledByAll();
            case 4:
                return tape.size;
            case 5:
                return realm.folk.z;
            default:
                return finding(BEYOND);
        }
    }

    public int status(int which) {
        if (!within(which, -1, FINDINGS - 1)) {
            return finding(BEYOND);
        }
        if (which >= 0) {
            return found[which];
        }
        int all = 0;
        for (int i = 0; i < FINDINGS; i++) {
            all += found[i];
        }
        return all;
    }

    // ---- what the acts ask

    private int finding(int answer) {
        int which = BEYOND - answer;
        if (which >= 0 && which < FINDINGS) {
            found[which]++;
        }
        return answer;
    }

    private static boolean within(int v, int least, int most) {
        return v >= least && v <= most;
    }

    private static boolean isIn(int group, int one) {
        return one >= 0 && one < MOST_PEOPLE && ((group >> one) & 1) == 1;
    }

    private static boolean isSort(int sort) {
        return within(sort, 0, SORTS - 1);
    }

    private static boolean isChairs(int n) {
        return within(n, 1, MOST_CHAIRS);
    }

    private static boolean isSheet(int s) {
        return within(s, 0, SHEETS - 1);
    }

    private boolean isOne(int person) {
        return within(person, 0, realm.folk.people - 1);
    }

    private boolean areTwo(int one, int other) {
        return isOne(one) && isOne(other) && one != other;
    }

    private boolean isPlace(int place) {
        return within(place, 0, realm.seat.rules[AHEAD] - 1);
    }

    private boolean mayStandInLine(int person) {
        boolean sitsOnce = person == realm.seat.sits && realm.seat.rules[AGAIN] == 0;
        return realm.folk.isAlive(person) && realm.seat.placeOf(person) < 0 && !sitsOnce;
    }

    private static boolean isTrait(int what, int v) {
        switch (what) {
            case 0:
                return within(v, 0, KINDS - 1);
            case 1:
                return within(v, LEAST_AGE, MOST_AGE);
            case 2:
                return isSort(v);
            case 3:
                return within(v, 0, (1 << MOST_PEOPLE) - 1);
            default:
                return false;
        }
    }

    private static boolean isUnder(int kind, int above) {
        int k = kind;
        for (int i = 0; i < KINDS && k >= 0 && k < KINDS; i++) {
            if (k == above) {
                return true;
            }
            k = KIND_ABOVE[k];
        }
        return false;
    }

    /** PEOPLE with what they are, LIKES, WORTH and the lots that are drawn for them. */
    private static final class Folk {
        int people = 0;
        final int[] kind = new int[MOST_PEOPLE];
        final int[] age = new int[MOST_PEOPLE];
        final int[] sort = new int[MOST_PEOPLE];
        final int[] kin = new int[MOST_PEOPLE];
        int dead = 0;
        /** Of one for another at one * MOST_PEOPLE + other; for oneself it stays 0. */
        final int[] liking = new int[MOST_PEOPLE * MOST_PEOPLE];
        /** Of a SORT in the chair for a SORT at sits * SORTS + sort. */
        final int[] value = new int[SORTS * SORTS];
        int z = 1;

        void takeFrom(Folk other) {
            people = other.people;
            dead = other.dead;
            z = other.z;
            System.arraycopy(other.kind, 0, kind, 0, MOST_PEOPLE);
            System.arraycopy(other.age, 0, age, 0, MOST_PEOPLE);
            System.arraycopy(other.sort, 0, sort, 0, MOST_PEOPLE);
            System.arraycopy(other.kin, 0, kin, 0, MOST_PEOPLE);
            System.arraycopy(other.liking, 0, liking, 0, MOST_PEOPLE * MOST_PEOPLE);
            System.arraycopy(other.value, 0, value, 0, SORTS * SORTS);
        }

        int join(int itsKind, int itsAge, int itsSort) {
            int one = people;
            if (one >= MOST_PEOPLE) {
                return NOBODY;
            }
            kind[one] = itsKind;
            age[one] = itsAge;
            sort[one] = itsSort;
            people = one + 1;
            return one;
        }

        int[] trait(int what) {
            switch (what) {
                case 0:
                    return kind;
                case 1:
                    return age;
                case 2:
                    return sort;
                default:
                    return kin;
            }
        }

        int alive() {
            return ((1 << people) - 1) & ~dead;
        }

        boolean isAlive(int one) {
            return isIn(alive(), one);
        }

        int ofSort(int which) {
            int group = 0;
            for (int one = 0; one < people; one++) {
                if (sort[one] == which) {
                    group |= 1 << one;
                }
            }
            return group;
        }

        int likedByOthers(int one) {
            int sum = 0;
            for (int other = 0; other < people; other++) {
                if (other != one && isAlive(other)) {
                    sum += liking[other * MOST_PEOPLE + one];
                }
            }
            return sum;
        }

        int worthOf(int one, int forSort) {
            return value[sort[one] * SORTS + forSort];
        }

        void grow() {
            for (int one = 0; one < people; one++) {
                if (isAlive(one) && age[one] < MOST_AGE) {
                    age[one]++;
                }
            }
        }

        /** A lot for each who is alive, also for the young, whom none can kill. */
        void drawLots(int death) {
            for (int one = 0; one < people; one++) {
                if (isAlive(one)) {
                    z = z * 1103515245 + 12345;
                    int lot = (z >>> 8) % 1000;
                    if (age[one] > 40 && lot < death * (age[one] - 40)) {
                        dead |= 1 << one;
                    }
                }
            }
        }
    }

    /** THE CHAIR with its RULES and THE LINE, over PEOPLE that several chairs may share. */
    private static final class Seat {
        final Folk folk;
        final Script script;
        /** Where FOLLOWS is tried; null in such a trial itself. */
        final Seat trial;
        final int[] rules = {2, 7, 0, 0, 0, 2};
        /** Places from AHEAD on are for nobody always. */
        final int[] line = {NOBODY, NOBODY, NOBODY, NOBODY};
        final int[] ruled = new int[MOST_PEOPLE];
        int sits = NOBODY;
        int reign = 0;
        private int keeper = NOBODY;
        private int otherKeeper = NOBODY;

        Seat(Folk folk, Script script, Seat trial) {
            this.folk = folk;
            this.script = script;
            this.trial = trial;
        }

        void takeFrom(Seat other) {
            sits = other.sits;
            reign = other.reign;
            System.arraycopy(other.rules, 0, rules, 0, RULES);
            System.arraycopy(other.line, 0, line, 0, MOST_PLACES);
            System.arraycopy(other.ruled, 0, ruled, 0, MOST_PEOPLE);
            keepWord(NOBODY, NOBODY);
        }

        void keepWord(int one, int other) {
            keeper = one;
            otherKeeper = other;
        }

        void giveRule(int what, int v) {
            rules[what] = v;
            if (what == AHEAD) {
                Arrays.fill(line, v, MOST_PLACES, NOBODY);
            }
        }

        int placeOf(int person) {
            for (int place = 0; place < rules[AHEAD]; place++) {
                if (line[place] == person) {
                    return place;
                }
            }
            return -1;
        }

        int named() {
            int group = 0;
            for (int place = 0; place < rules[AHEAD]; place++) {
                if (line[place] != NOBODY) {
                    group |= 1 << line[place];
                }
            }
            return group;
        }

        int firstNamed() {
            for (int place = 0; place < rules[AHEAD]; place++) {
                if (line[place] != NOBODY) {
                    return line[place];
                }
            }
            return NOBODY;
        }

        int ruledByAll() {
            int sum = 0;
            for (int one = 0; one < folk.people; one++) {
                sum += ruled[one];
            }
            return sum;
        }

        /** Who SITS and THE LINE as one number. */
        int code() {
            int code = sits + 1;
            for (int place = 0; place < MOST_PLACES; place++) {
                code = code * (MOST_PEOPLE + 1) + line[place] + 1;
            }
            return code;
        }

        /** Whom one MAY name. */
        int allowed(int namer) {
            int group = folk.alive() & ~named() & ~(1 << namer);
            if (rules[KINS] == 0) {
                group &= ~folk.kin[namer];
            }
            if (sits != NOBODY) {
                group &= ~(1 << sits);
            }
            if (sits == namer && rules[AGAIN] == 1 && placeOf(namer) < 0) {
                group |= 1 << namer;
            }
            return group;
        }

        /** Whom one WOULD name, or the other one of two who keep to a word, if that MAY be. */
        int choice(int namer, int looking) {
            int group = allowed(namer);
            int partner = namer == keeper ? otherKeeper : namer == otherKeeper ? keeper : NOBODY;
            if (isIn(group, partner)) {
                return partner;
            }
            int way = wayOf(namer, looking);
            if (way == PACT) {
                int own = group & folk.ofSort(folk.sort[namer]);
                group = own != 0 ? own : group;
            }
            int by = way == FRIEND || way == SPITE ? firstNamed() : namer;
            int best = NOBODY;
            int most = 0;
            for (int one = 0; one < folk.people; one++) {
                if (isIn(group, one)) {
                    int much = measure(way, by, one, looking);
                    if (best == NOBODY || much > most) {
                        best = one;
                        most = much;
                    }
                }
            }
            return best;
        }

        /** The KIND by which one names as things are: who lacks what it needs names as NAMER. */
        private int wayOf(int namer, int looking) {
            int way = folk.kind[namer];
            boolean lacks = (way == FRIEND || way == SPITE) && firstNamed() == NOBODY
                || way == TOLD && !script.isThere()
                || way == BEST && looking <= 0;
            return lacks ? NAMER : way;
        }

        private int measure(int way, int by, int one, int looking) {
            switch (way) {
                case SPITE:
                    return -folk.liking[by * MOST_PEOPLE + one];
                case FOOL:
                    return folk.age[one];
                case TOLD:
                    return script.work(this, by, one);
                case BEST:
                    return whatFollows(by, one, looking);
                default:
                    return folk.liking[by * MOST_PEOPLE + one];
            }
        }

        int whatFollows(int namer, int one, int looking) {
            if (trial == null || looking <= 0) {
                return 0;
            }
            trial.takeFrom(this);
            trial.line[rules[AHEAD] - 1] = one;
            int sum = 0;
            int times = rules[AHEAD] + 2;
            for (int i = 0; i < times; i++) {
                int who = trial.next(looking - 1);
                if (who != NOBODY) {
                    sum += folk.worthOf(who, folk.sort[namer]);
                }
            }
            return sum;
        }

        /** Next is TO COME: who SITS then. */
        int next(int looking) {
            sits = NOBODY;
            reign = 0;
            int passes = rules[GAP] == 0 ? rules[AHEAD] : 1;
            for (int i = 0; i < passes && sits == NOBODY; i++) {
                sits = moveUp();
            }
            if (sits == NOBODY) {
                return NOBODY;
            }
            ruled[sits]++;
            int last = rules[AHEAD] - 1;
            for (int place = rules[GAP] == 1 ? 0 : last; place <= last; place++) {
                if (line[place] == NOBODY) {
                    line[place] = choice(sits, looking);
                }
            }
            return sits;
        }

        private int moveUp() {
            int off = line[0];
            int last = rules[AHEAD] - 1;
            for (int place = 0; place < last; place++) {
                line[place] = line[place + 1];
            }
            line[last] = NOBODY;
            return off;
        }

        /** A YEAR: true if somebody came TO SIT in it. */
        boolean year() {
            folk.grow();
            if (sits != NOBODY) {
                reign++;
            }
            folk.drawLots(rules[DEATH]);
            bury();
            if (sits != NOBODY && reign < rules[TERM]) {
                return false;
            }
            return next(LOOKING) != NOBODY;
        }

        private void bury() {
            for (int place = 0; place < rules[AHEAD]; place++) {
                if (!folk.isAlive(line[place])) {
                    line[place] = NOBODY;
                }
            }
            if (!folk.isAlive(sits)) {
                sits = NOBODY;
            }
        }

        /** What a NAME of THE TEXT is of another one for one. */
        int valueOf(char name, int one, int other) {
            switch (name) {
                case 'l':
                    return folk.liking[one * MOST_PEOPLE + other];
                case 'a':
                    return folk.age[other];
                case 's':
                    return folk.sort[one] == folk.sort[other] ? 1 : 0;
                case 'w':
                    return folk.worthOf(other, folk.sort[one]);
                case 'r':
                    return ruled[other];
                default:
                    int first = firstNamed();
                    return first == NOBODY ? 0 : folk.liking[first * MOST_PEOPLE + other];
            }
        }
    }

    /** All that an image keeps. */
    private static final class Realm {
        final Folk folk = new Folk();
        final Script script = new Script();
        final Seat trial = new Seat(folk, script, null);
        final Seat seat = new Seat(folk, script, trial);

        void takeFrom(Realm other) {
            folk.takeFrom(other.folk);
            script.takeFrom(other.script);
            seat.takeFrom(other.seat);
        }
    }

    /** CHAIRS AHEAD of a realm, which itself stays as it is. */
    private static final class Chairs {
        private final Realm realm;
        final Seat trial;
        final int[] ofSort = new int[SORTS];
        private final int[] without = new int[SORTS];
        private final int[] codes = new int[MOST_EVER_CHAIRS + 1];
        private final int[] sitters = new int[MOST_EVER_CHAIRS + 1];
        int first = 0;
        int again = 0;

        Chairs(Realm realm) {
            this.realm = realm;
            this.trial = new Seat(realm.folk, realm.script, realm.trial);
        }

        void start() {
            trial.takeFrom(realm.seat);
        }

        void tally(int n) {
            Arrays.fill(ofSort, 0);
            for (int i = 0; i < n; i++) {
                int who = trial.next(LOOKING);
                if (who != NOBODY) {
                    ofSort[realm.folk.sort[who]]++;
                }
            }
        }

        int worthFor(int sort) {
            int sum = 0;
            for (int s = 0; s < SORTS; s++) {
                sum += ofSort[s] * realm.folk.value[s * SORTS + sort];
            }
            return sum;
        }

        /** FOR EVER: false if nothing comes again; else it is at again as it was at first. */
        boolean goRound() {
            start();
            codes[0] = trial.code();
            for (int chair = 1; chair <= MOST_EVER_CHAIRS; chair++) {
                sitters[chair] = trial.next(LOOKING);
                codes[chair] = trial.code();
                for (int before = 0; before < chair; before++) {
                    if (codes[before] == codes[chair]) {
                        first = before;
                        again = chair;
                        return true;
                    }
                }
            }
            return false;
        }

        int whoGoesRound() {
            int group = 0;
            for (int chair = first + 1; chair <= again; chair++) {
                if (sitters[chair] != NOBODY) {
                    group |= 1 << sitters[chair];
                }
            }
            return group;
        }

        /** The tally is the one without a word. */
        void noteWithout() {
            for (int sort = 0; sort < SORTS; sort++) {
                without[sort] = worthFor(sort);
            }
        }

        /** By how much more WORTH the tally is for the SORT of one than the one without a word. */
        int moreFor(int one) {
            int sort = realm.folk.sort[one];
            return worthFor(sort) - without[sort];
        }
    }

    /** THE TEXT, each sign behind what it is worked out of. */
    private static final class Script {
        /** A NUMBER as itself, a sign as -1 less its char. */
        private final int[] codes = new int[TAPE];
        private final int[] stack = new int[TAPE];
        int length = 0;

        boolean isThere() {
            return length > 0;
        }

        void takeFrom(Script other) {
            length = other.length;
            System.arraycopy(other.codes, 0, codes, 0, TAPE);
        }

        void putNumber(int number) {
            if (length < TAPE) {
                codes[length] = number;
                length++;
            }
        }

        void putSign(char sign) {
            putNumber(-1 - sign);
        }

        int work(Seat seat, int one, int other) {
            int top = 0;
            for (int i = 0; i < length; i++) {
                char sign = codes[i] < 0 ? (char) (-1 - codes[i]) : '0';
                boolean letter = sign >= 'a' && sign <= 'z';
                if (sign == '0' || letter) {
                    if (top < TAPE) {
                        stack[top] = letter ? seat.valueOf(sign, one, other) : codes[i];
                        top++;
                    }
                } else if (sign == '!' || sign == LESS) {
                    if (top >= 1) {
                        stack[top - 1] = sign == LESS ? -stack[top - 1] : truth(stack[top - 1] == 0);
                    }
                } else if (top >= 2) {
                    top--;
                    stack[top - 1] = join(sign, stack[top - 1], stack[top]);
                }
            }
            return stack[0];
        }

        private static int truth(boolean is) {
            return is ? 1 : 0;
        }

        private static int join(char sign, int left, int right) {
            switch (sign) {
                case '|':
                    return truth(left != 0 || right != 0);
                case '&':
                    return truth(left != 0 && right != 0);
                case '<':
                    return truth(left < right);
                case '=':
                    return truth(left == right);
                case '>':
                    return truth(left > right);
                case '+':
                    return left + right;
                case '-':
                    return left - right;
                case '*':
                    return left * right;
                case '/':
                    return right == 0 ? 0 : left / right;
                default:
                    return right == 0 ? 0 : left % right;
            }
        }
    }

    /** THE TAPE and how a TEXT is read from it. */
    private static final class Tape {
        private final char[] bytes = new char[TAPE];
        final Script draft = new Script();
        int size = 0;
        /** The place that is read; with a FAULT its place. */
        int at = 0;
        private boolean fault = false;

        void put(int b) {
            if (size < TAPE) {
                bytes[size] = (char) b;
                size++;
            }
        }

        /** True if all of it is a TEXT, which the draft is then. */
        boolean parse() {
            at = 0;
            fault = false;
            draft.length = 0;
            readT(0);
            return !fault && at == size;
        }

        private boolean sees(char sign) {
            return !fault && at < size && bytes[at] == sign;
        }

        private boolean takes(char sign) {
            boolean there = sees(sign);
            if (there) {
                at++;
            }
            return there;
        }

        private boolean seesDigit() {
            return !fault && at < size && bytes[at] >= '0' && bytes[at] <= '9';
        }

        private void readT(int open) {
            readA(open);
            for (int i = 0; i < TAPE && takes('|'); i++) {
                readA(open);
                draft.putSign('|');
            }
        }

        private void readA(int open) {
            readB(open);
            for (int i = 0; i < TAPE && takes('&'); i++) {
                readB(open);
                draft.putSign('&');
            }
        }

        private void readB(int open) {
            readS(open);
            if (sees('<') || sees('=') || sees('>')) {
                char sign = bytes[at];
                at++;
                readS(open);
                draft.putSign(sign);
            }
        }

        private void readS(int open) {
            readP(open);
            for (int i = 0; i < TAPE && (sees('+') || sees('-')); i++) {
                char sign = bytes[at];
                at++;
                readP(open);
                draft.putSign(sign);
            }
        }

        private void readP(int open) {
            readQ(open);
            for (int i = 0; i < TAPE && (sees('*') || sees('/') || sees('%')); i++) {
                char sign = bytes[at];
                at++;
                readQ(open);
                draft.putSign(sign);
            }
        }

        private void readQ(int open) {
            if (seesDigit()) {
                readNumber();
            } else if (!fault && at < size && NAMES.indexOf(bytes[at]) >= 0) {
                draft.putSign(bytes[at]);
                at++;
            } else if (open < MOST_OPEN && takes('!')) {
                readQ(open + 1);
                draft.putSign('!');
            } else if (open < MOST_OPEN && takes('-')) {
                readQ(open + 1);
                draft.putSign(LESS);
            } else if (open < MOST_OPEN && takes('(')) {
                readT(open + 1);
                if (!takes(')')) {
                    fault = true;
                }
            } else {
                fault = true;
            }
        }

        private void readNumber() {
            int number = 0;
            for (int i = 0; i < MOST_DIGITS && seesDigit(); i++) {
                number = number * 10 + (bytes[at] - '0');
                at++;
            }
            draft.putNumber(number);
        }
    }

    /** A row of numbers, or MISSING. */
    private static final class Sheet {
        /** 0: MISSING. */
        int bits = 0;
        int length = 0;
        final long[] numbers = new long[MOST_NUMBERS];

        boolean isMissing() {
            return bits == 0;
        }

        void lay(int itsBits, int n) {
            bits = itsBits;
            length = n;
            Arrays.fill(numbers, 0L);
        }

        long lowest(long v) {
            return bits == 8 ? (byte) v : bits == 16 ? (short) v : v;
        }

        boolean holds(int from, int n) {
            return from >= 0 && n >= 0 && (long) from + n <= length;
        }
    }
}
