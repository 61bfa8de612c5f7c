/**
 * A bell tolls ahead for whoever will be late that day; nobody knows for whom, so all who hear it
 * run. The words in capitals in the comments are those of the document (DOC.md).
 *
 * <p>All rows are made with the object and used again; the row of what was asked alone grows.
 */
public final class TollsForLate {
    public static final int NONE = -1;

    private static final int OTHER = -2;
    private static final int NO_SLACK = -1000;

    private static final int MOST_PERSONS = 8;
    private static final int EVERYBODY = 255;
    private static final int ALL_RINGS = 256;
    private static final int ROADS = 4;
    private static final int WEATHERS = 10;
    private static final int LAST_DAY = 9999;
    private static final int MOST_DAYS = 60;
    private static final int MOST_STEPS = 30;
    private static final int MOST_PAGES = 30;
    private static final int LATE_IN_BOOK = 2;
    private static final int MOST_DRAWS = 40;
    private static final int LAST_SEED = 9999;
    private static final int FIRST_X = 229;
    private static final int MOST_TOLD = 8;
    private static final int MOST_DAYS_TO_ASK = 12;
    private static final int NO_HELP = MOST_PERSONS + 1;

    private static final int MOST_TEXTS = 4;
    private static final int MOST_BYTES = 300;
    private static final int MOST_CLAUSES = 24;
    private static final int CLAUSE_WIDTH = 5;
    private static final int MOST_OPEN = 8;
    private static final int LAST_NUMBER = 9999;
    private static final int LIMIT = 1000000;
    private static final int MOST_TAKES = 999;
    private static final int LAST_DUE = 99;
    private static final int LAST_PACE = 99;

    /**
     * The words of the language; a word's place in this row is its TOKEN's kind. The first eight
     * begin CLAUSES, those from due to jam are NAMES.
     */
    private static final String WORDS = "runs takes person ring bed up due day walk run weather who road heard fast jam of rings if then else end or xor and not";
    private static final int RUNS = 0;
    private static final int TAKES = 1;
    private static final int PERSON = 2;
    private static final int RING = 3;
    private static final int BED = 4;
    private static final int UP = 5;
    private static final int DUE = 6;
    private static final int DAY = 7;
    private static final int WALK = 8;
    private static final int RUN = 9;
    private static final int WEATHER = 10;
    private static final int WHO = 11;
    private static final int ROAD = 12;
    private static final int HEARD = 13;
    private static final int FAST = 14;
    private static final int JAM = 15;
    private static final int OF = 16;
    private static final int RINGS = 17;
    private static final int IF = 18;
    private static final int THEN = 19;
    private static final int ELSE = 20;
    private static final int END = 21;
    private static final int OR = 22;
    private static final int XOR = 23;
    private static final int AND = 24;
    private static final int NOT = 25;

    /** The signs of the language; a sign's place in this row, behind FIRST_SIGN, is its kind. */
    private static final String SIGNS = "+-*/();<>=#";
    private static final int FIRST_SIGN = 30;
    private static final int PLUS = 30;
    private static final int MINUS = 31;
    private static final int STAR = 32;
    private static final int SLASH = 33;
    private static final int OPEN = 34;
    private static final int CLOSE = 35;
    private static final int STOP = 36;
    private static final int LESS = 37;
    private static final int MORE = 38;
    private static final int SAME = 39;
    private static final int UNLIKE = 40;
    private static final int AT_MOST = 41;
    private static final int AT_LEAST = 42;
    private static final int NUMBER = 50;
    private static final int FINISH = 51;
    private static final int NO_TOKEN = 52;
    private static final int NEGATE = 60;

    private static final int CANT_STAND = 1;
    private static final int WRONG_NUMBER = 2;
    private static final int TOO_DEEP = 3;
    private static final int LAW_AGAIN = 4;
    private static final int WRONG_NAME = 5;
    private static final int TOO_MANY_CLAUSES = 6;

    private final Town town;
    private final Town imaged;
    private final Tape tape;
    private final Text[] shelf;
    private final Reader reader;
    private final Morning morning;
    private final Deeds deeds;
    private final Leads leads;
    private final Beliefs beliefs;
    private boolean wasRead;
    private int lastFault;
    private int lastPlace;

    public TollsForLate() {
        town = new Town();
        imaged = new Town();
        tape = new Tape();
        shelf = new Text[MOST_TEXTS];
        for (int i = 0; i < MOST_TEXTS; i++) {
            shelf[i] = new Text();
        }
        reader = new Reader();
        morning = new Morning(town, shelf);
        deeds = new Deeds(town, morning);
        leads = new Leads(town, morning);
        beliefs = new Beliefs(town, leads);
    }

    // ---- what is told ----

    public int person(int road, int walk, int run, int due) {
        leads.forget();
        return town.tell(road, walk, run, due);
    }

    public boolean hears(int p, int q, boolean does) {
        if (p < 0 || p >= MOST_PERSONS || q < 0 || q >= MOST_PERSONS) {
            return false;
        }
        leads.forget();
        town.hears[p] = does ? town.hears[p] | 1 << q : town.hears[p] & ~(1 << q);
        return true;
    }

    public int feed(int a, int b, int c, int d, int e) {
        if (!tape.hasRoomForFive()) {
            return NONE;
        }
        tape.append(a);
        tape.append(b);
        tape.append(c);
        tape.append(d);
        tape.append(e);
        return tape.length;
    }

    public int end(int n) {
        if (n < 0 || n > tape.length) {
            return NONE;
        }
        tape.length = n;
        return n;
    }

    public int text() {
        int number = town.texts;
        Text next = number >= 0 && number < MOST_TEXTS ? shelf[number] : null;
        if (next == null) {
            return NONE;
        }
        reader.readInto(next, tape);
        wasRead = true;
        lastFault = reader.fault;
        lastPlace = reader.place;
        tape.length = 0;
        if (lastFault != 0) {
            return NONE;
        }
        town.texts = number + 1;
        return number;
    }

    public int fault(int what) {
        if (!wasRead) {
            return NONE;
        }
        if (what == 0) {
            return lastFault;
        }
        return what == 1 ? lastPlace : NONE;
    }

    public boolean by(int text) {
        if (text < NONE || text >= town.texts) {
            return false;
        }
        leads.forget();
        town.ruling = text;
        return true;
    }

    // ---- what is done ----

    public boolean ring(int persons) {
        return deeds.ringFor(persons);
    }

    public boolean due(int person, int due) {
        leads.forget();
        return deeds.putOff(person, due);
    }

    public boolean bed(int person) {
        leads.forget();
        return deeds.goToBed(person);
    }

    public boolean up(int person) {
        leads.forget();
        return deeds.getUp(person);
    }

    public int day(int n) {
        if (n < 1 || n > MOST_DAYS || n > deeds.daysThatCanPass()) {
            return NONE;
        }
        leads.forget();
        return deeds.passDays(n);
    }

    public int played(int text) {
        Text script = text < town.texts ? morning.textOf(text) : null;
        if (script == null) {
            return OTHER;
        }
        leads.forget();
        for (int i = 0; i < script.count; i++) {
            if (!deeds.playClause(script, i)) {
                return i;
            }
        }
        return NONE;
    }

    public int years(int seed, int n) {
        if (seed < 0 || seed > LAST_SEED || n < 1 || n > MOST_DRAWS) {
            return NONE;
        }
        leads.forget();
        deeds.draw(seed, n);
        return town.now.day;
    }

    public int undo() {
        leads.forget();
        return town.takeBack() ? town.steps : NONE;
    }

    // ---- what is so ----

    public int of(int person, int what) {
        if (!town.isPerson(person)) {
            return NONE;
        }
        switch (what) {
            case 0:
                return town.roads[person];
            case 1:
                return town.walks[person];
            case 2:
                return town.runs[person];
            case 3:
                return town.now.dues[person];
            case 4:
                return town.now.bed >> person & 1;
            case 5:
                return town.now.lates[person];
            case 6:
                return runningNow() >> person & 1;
            case 7:
                return takesNow(person);
            case 8:
                return town.hears[person];
            default:
                return NONE;
        }
    }

    public int is(int what) {
        switch (what) {
            case 0:
                return town.now.day;
            case 1:
                return town.now.rings;
            case 2:
                return town.now.weather;
            case 3:
                return town.now.x;
            default:
                return OTHER;
        }
    }

    public int book(int i, int what) {
        if (i == NONE) {
            return town.now.pages;
        }
        if (i < 0 || i >= town.now.pages || what < 0 || what > 3) {
            return OTHER;
        }
        return town.now.written(i, what);
    }

    public int foretold(int n, int what) {
        if (n < 1 || n > MOST_DAYS || what < 0 || what > 2) {
            return NONE;
        }
        return deeds.foretell(n, what);
    }

    public int late(int rings) {
        if (!town.areRings(rings)) {
            return NONE;
        }
        return leads.next(rings);
    }

    public int runners(int rings) {
        if (!town.areRings(rings)) {
            return NONE;
        }
        morning.asNow();
        return morning.runningBy(rings);
    }

    // ---- what RINGS lead to ----

    public int settled(int i) {
        if (i == NONE) {
            return leads.settledCount();
        }
        return leads.settledAt(i);
    }

    public int fewest(boolean most) {
        return leads.settledForFewest(most);
    }

    public int tail(int rings) {
        if (!town.areRings(rings)) {
            return NONE;
        }
        return leads.tailOf(rings);
    }

    public int round(int rings) {
        if (!town.areRings(rings)) {
            return NONE;
        }
        return leads.roundOf(rings);
    }

    public int rounds() {
        return leads.roundCount();
    }

    public int basin(int rings) {
        if (!town.areRings(rings)) {
            return NONE;
        }
        return leads.basinOf(rings);
    }

    public int never() {
        return leads.neverLedTo();
    }

    public int after(int rings, int n) {
        if (!town.areRings(rings) || n < 0 || n > MOST_DAYS) {
            return NONE;
        }
        return leads.behind(rings, n);
    }

    public int times(int a, int b) {
        if (!town.areRings(a) || !town.areRings(b)) {
            return NONE;
        }
        return leads.timesTill(a, b);
    }

    public int apart(int a, int b) {
        if (!town.areRings(a) || !town.areRings(b)) {
            return NONE;
        }
        return leads.timesApart(a, b);
    }

    public int always() {
        int count = 0;
        for (int r = 0; r < town.allRings(); r++) {
            if (leads.isSettled(r) && isSettledByEachWeather(r)) {
                count++;
            }
        }
        return count;
    }

    private boolean isSettledByEachWeather(int rings) {
        morning.asNow();
        for (int w = 0; w < WEATHERS; w++) {
            morning.weather = w;
            if (morning.lateBy(rings) != rings) {
                return false;
            }
        }
        return true;
    }

    public int calm(boolean most) {
        return leads.calmest(most);
    }

    public int helped(int rings, boolean harmed) {
        if (!town.areRings(rings)) {
            return NONE;
        }
        int byNone = leads.next(0);
        int byThese = leads.next(rings);
        return harmed ? byThese & ~byNone : byNone & ~byThese;
    }

    public int early(int rings) {
        if (!town.areRings(rings)) {
            return NONE;
        }
        morning.asNow();
        int running = morning.runningBy(rings);
        int minutes = 0;
        for (int p = 0; p < town.count; p++) {
            if (morning.isUp(p)) {
                minutes += Math.max(0, town.now.dues[p] - morning.takesAmong(p, running));
            }
        }
        return minutes;
    }

    public int weathers(int person) {
        if (!town.isPerson(person)) {
            return NONE;
        }
        morning.asNow();
        int count = 0;
        for (int w = 0; w < WEATHERS; w++) {
            morning.weather = w;
            count += morning.lateBy(town.now.rings) >> person & 1;
        }
        return count;
    }

    // ---- who runs for nothing, whose fault it is, a race ----

    public int needless() {
        int running = runningNow();
        int bits = 0;
        for (int p = 0; p < town.count; p++) {
            if ((running >> p & 1) == 1 && wouldBeInTimeWalking(p, running)) {
                bits |= 1 << p;
            }
        }
        return bits;
    }

    public int lateness(int person) {
        if (!town.isPerson(person)) {
            return NONE;
        }
        if ((leads.next(town.now.rings) >> person & 1) == 0) {
            return 0;
        }
        if (leads.isLateByAll(person)) {
            return 1;
        }
        int running = runningNow();
        int fast = running >> person & 1;
        if (fast == 1 && wouldBeInTimeWalking(person, running)) {
            return 2;
        }
        return morning.takesOf(person, fast, 0) <= town.now.dues[person] ? 3 : 4;
    }

    private boolean wouldBeInTimeWalking(int p, int running) {
        return morning.takesOf(p, 0, morning.jamOf(p, running)) <= town.now.dues[p];
    }

    public int race(int n, boolean choice) {
        if (n < 1 || n > town.count) {
            return NONE;
        }
        return leads.raced(n, choice);
    }

    // ---- what one believes ----

    public int heard(int person, boolean rung) {
        if (person == NONE) {
            town.heard = 0;
            return 0;
        }
        if (!town.isPerson(person) || town.heard >= MOST_TOLD) {
            return OTHER;
        }
        town.heardWho[town.heard] = person;
        town.heardRung[town.heard] = rung ? 1 : 0;
        town.heard++;
        return town.heard;
    }

    public int believes(int person, boolean low) {
        if (!town.isPerson(person)) {
            return NONE;
        }
        beliefs.gather();
        return beliefs.likely(person, low);
    }

    public int sure(boolean late) {
        beliefs.gather();
        if (beliefs.count == 0) {
            return NONE;
        }
        return late ? beliefs.lateInAll() : beliefs.lateInNone();
    }

    public int tells(int what) {
        if (what != 0 && what != 1) {
            return NONE;
        }
        beliefs.gather();
        if (beliefs.count > MOST_DAYS_TO_ASK) {
            return NONE;
        }
        beliefs.weigh();
        return what == 0 ? beliefs.firstToAsk() : beliefs.mostAsked();
    }

    // ---- staying asleep, slack, whose law ----

    public int asleep(boolean many) {
        morning.asNow();
        int all = (1 << town.count) - 1;
        int already = town.now.bed;
        int best = all;
        for (int set = 0; set < all; set++) {
            boolean better = Integer.bitCount(set) < Integer.bitCount(best);
            if (better && (set & already) == already && nobodyIsLateWith(set)) {
                best = set;
            }
        }
        return many ? Integer.bitCount(best) : best;
    }

    private boolean nobodyIsLateWith(int inBed) {
        morning.bed = inBed;
        return morning.lateBy(0) == 0;
    }

    public int slack(int person) {
        if (!town.isPerson(person)) {
            return NO_SLACK;
        }
        return town.now.dues[person] - takesNow(person);
    }

    public int least(int person) {
        return town.isPerson(person) ? Math.min(LAST_DUE, takesNow(person)) : NONE;
    }

    public int moves(int p, int q) {
        if (!town.isPerson(p) || !town.isPerson(q)) {
            return NONE;
        }
        morning.asNow();
        int without = morning.lateBy(town.now.rings & ~(1 << p));
        int with = morning.lateBy(town.now.rings | 1 << p);
        return (without ^ with) >> q & 1;
    }

    public int said(int person, int takes) {
        if (person == NONE) {
            town.said = 0;
            return 0;
        }
        boolean isOne = town.isPerson(person) && takes >= 0 && takes <= MOST_TAKES;
        if (!isOne || town.said >= MOST_TOLD) {
            return OTHER;
        }
        town.saidWho[town.said] = person;
        town.saidTakes[town.said] = takes;
        town.said++;
        return town.said;
    }

    public int whose() {
        int bits = 0;
        for (int t = 0; t < town.texts; t++) {
            if (allSaidIsSoBy(t)) {
                bits |= 1 << t;
            }
        }
        return bits;
    }

    private boolean allSaidIsSoBy(int text) {
        morning.asNow();
        morning.law = morning.textOf(text);
        int running = morning.runningBy(town.now.rings);
        for (int i = 0; i < town.said; i++) {
            if (morning.takesAmong(town.saidWho[i], running) != town.saidTakes[i]) {
                return false;
            }
        }
        return true;
    }

    public int latest() {
        int best = NONE;
        int most = 0;
        for (int p = 0; p < town.count; p++) {
            if (town.now.lates[p] > most) {
                most = town.now.lates[p];
                best = p;
            }
        }
        return best;
    }

    public int crowded() {
        int running = runningNow();
        int best = 0;
        int most = 0;
        for (int road = 0; road < ROADS; road++) {
            int here = Integer.bitCount(running & town.onRoad[road]);
            if (here > most) {
                most = here;
                best = road;
            }
        }
        return best;
    }

    public int deaf() {
        int told = (1 << town.count) - 1;
        int bits = 0;
        for (int p = 0; p < town.count; p++) {
            if ((town.hears[p] & told) == 0) {
                bits |= 1 << p;
            }
        }
        return bits;
    }

    public int ledger(int person) {
        if (person != NONE && !town.isPerson(person)) {
            return OTHER;
        }
        int whom = person == NONE ? EVERYBODY : 1 << person;
        int count = 0;
        for (int i = 0; i < town.now.pages; i++) {
            count += Integer.bitCount(town.now.written(i, LATE_IN_BOOK) & whom);
        }
        return count;
    }

    // ---- the image, and about ----

    public int image() {
        imaged.become(town);
        return town.now.day;
    }

    public int back() {
        leads.forget();
        town.become(imaged);
        return town.now.day;
    }

    public int about(int what) {
        switch (what) {
            case 0:
                return town.count;
            case 1:
                return town.texts;
            case 2:
                return town.ruling;
            case 3:
                return town.steps;
            case 4:
                return town.heard;
            case 5:
                return town.said;
            case 6:
                return tape.length;
            default:
                return OTHER;
        }
    }

    private static boolean isName(int kind) {
        return kind >= DUE && kind <= JAM;
    }

    private int runningNow() {
        morning.asNow();
        return morning.runningBy(town.now.rings);
    }

    private int takesNow(int person) {
        return morning.takesAmong(person, runningNow());
    }

    /** What a STEP changes, and taking it back restores. */
    private static final class Moment {
        int rings;
        int bed;
        int weather;
        int day;
        int x = FIRST_X;
        final int[] dues = new int[MOST_PERSONS];
        final int[] lates = new int[MOST_PERSONS];
        /** BOOK, the eldest first: of each page DAY, RINGS, LATE, WEATHER, 16 bits each. */
        final long[] book = new long[MOST_PAGES];
        int pages;

        void become(Moment other) {
            rings = other.rings;
            bed = other.bed;
            weather = other.weather;
            day = other.day;
            x = other.x;
            pages = other.pages;
            System.arraycopy(other.dues, 0, dues, 0, MOST_PERSONS);
            System.arraycopy(other.lates, 0, lates, 0, MOST_PERSONS);
            System.arraycopy(other.book, 0, book, 0, MOST_PAGES);
        }

        void stir() {
            x = (x * 463 + 353) % 30643;
        }

        /** Those that are late by RINGS: counted, written down, and rung for then. */
        void endDay(int late) {
            for (int p = 0; p < MOST_PERSONS; p++) {
                lates[p] += late >> p & 1;
            }
            write(late);
            rings = late;
            day++;
        }

        private void write(int late) {
            if (pages >= MOST_PAGES) {
                pages = MOST_PAGES - 1;
                System.arraycopy(book, 1, book, 0, pages);
            }
            book[pages] = day | (long) rings << 16 | (long) late << 32 | (long) weather << 48;
            pages++;
        }

        int written(int page, int what) {
            return (int) (book[page] >> 16 * what) & 65535;
        }
    }

    /** All that an IMAGE holds; TEXTS stand outside, for those that an IMAGE counts never change. */
    private static final class Town {
        int count;
        final int[] roads = new int[MOST_PERSONS];
        /** Of each ROAD the PERSONS (bits) on it. */
        final int[] onRoad = new int[ROADS];
        final int[] walks = new int[MOST_PERSONS];
        final int[] runs = new int[MOST_PERSONS];
        final int[] hears = new int[MOST_PERSONS];
        int texts;
        int ruling = NONE;
        int heard;
        final int[] heardWho = new int[MOST_TOLD];
        final int[] heardRung = new int[MOST_TOLD];
        int said;
        final int[] saidWho = new int[MOST_TOLD];
        final int[] saidTakes = new int[MOST_TOLD];
        final Moment now = new Moment();
        /** The moments ahead of the latest STEPS, in a ring whose first one is the eldest. */
        final Moment[] past = new Moment[MOST_STEPS];
        int eldest;
        int steps;

        Town() {
            for (int p = 0; p < MOST_PERSONS; p++) {
                hears[p] = EVERYBODY;
            }
            for (int i = 0; i < MOST_STEPS; i++) {
                past[i] = new Moment();
            }
        }

        boolean isPerson(int p) {
            return p >= 0 && p < count;
        }

        boolean areRings(int bits) {
            return bits >= 0 && bits < allRings();
        }

        int allRings() {
            return 1 << count;
        }

        int tell(int road, int walk, int run, int due) {
            boolean isOne = road >= 0 && road < ROADS && walk >= 1 && walk <= LAST_PACE
                    && run >= 1 && run <= LAST_PACE && due >= 0 && due <= LAST_DUE;
            if (!isOne || count >= MOST_PERSONS) {
                return NONE;
            }
            roads[count] = road;
            onRoad[road] |= 1 << count;
            walks[count] = walk;
            runs[count] = run;
            now.dues[count] = due;
            // Whatever STEP is taken back, a PERSON told since is as told.
            for (int i = 0; i < steps; i++) {
                aheadOf(i).dues[count] = due;
            }
            count++;
            return count - 1;
        }

        void markStep() {
            if (steps < MOST_STEPS) {
                steps++;
            } else {
                eldest = (eldest + 1) % MOST_STEPS;
            }
            aheadOf(steps - 1).become(now);
        }

        boolean takeBack() {
            if (steps <= 0) {
                return false;
            }
            steps--;
            now.become(aheadOf(steps));
            return true;
        }

        /** The moment ahead of the i-th STEP, from the eldest on. */
        private Moment aheadOf(int i) {
            Moment moment = past[(eldest + i) % MOST_STEPS];
            return moment == null ? now : moment;
        }

        void become(Town other) {
            count = other.count;
            texts = other.texts;
            ruling = other.ruling;
            heard = other.heard;
            said = other.said;
            System.arraycopy(other.roads, 0, roads, 0, MOST_PERSONS);
            System.arraycopy(other.onRoad, 0, onRoad, 0, ROADS);
            System.arraycopy(other.walks, 0, walks, 0, MOST_PERSONS);
            System.arraycopy(other.runs, 0, runs, 0, MOST_PERSONS);
            System.arraycopy(other.hears, 0, hears, 0, MOST_PERSONS);
            System.arraycopy(other.heardWho, 0, heardWho, 0, MOST_TOLD);
            System.arraycopy(other.heardRung, 0, heardRung, 0, MOST_TOLD);
            System.arraycopy(other.saidWho, 0, saidWho, 0, MOST_TOLD);
            System.arraycopy(other.saidTakes, 0, saidTakes, 0, MOST_TOLD);
            now.become(other.now);
            eldest = 0;
            steps = other.steps;
            for (int i = 0; i < steps; i++) {
                aheadOf(i).become(other.aheadOf(i));
            }
        }
    }

    private static final class Tape {
        final int[] bytes = new int[MOST_BYTES];
        int length;

        boolean hasRoomForFive() {
            return length + 20 <= MOST_BYTES;
        }

        void append(int four) {
            for (int shift = 24; shift >= 0; shift -= 8) {
                if (length < MOST_BYTES) {
                    bytes[length] = four >> shift & 255;
                    length++;
                }
            }
        }
    }

    /** A TEXT as it was read: its CLAUSES, and its laws with what they ask behind the values. */
    private static final class Text {
        final int[] asks = new int[MOST_BYTES];
        final int[] values = new int[MOST_BYTES];
        int size;
        int runsFrom;
        int runsTo;
        int takesFrom;
        int takesTo;
        /** Of each CLAUSE its first TOKEN's kind, then its numbers. */
        final int[] clauses = new int[MOST_CLAUSES * CLAUSE_WIDTH];
        int count;

        void clear() {
            size = 0;
            count = 0;
            runsFrom = NONE;
            takesFrom = NONE;
        }

        boolean has(int law) {
            return law == RUNS && runsFrom != NONE || law == TAKES && takesFrom != NONE;
        }

        void startClause(int kind) {
            if (kind == RUNS) {
                runsFrom = size;
            }
            if (kind == TAKES) {
                takesFrom = size;
            }
            put(0, kind);
        }

        void endClause(int kind) {
            if (kind == RUNS) {
                runsTo = size;
            }
            if (kind == TAKES) {
                takesTo = size;
            }
            count++;
        }

        void put(int slot, int number) {
            int at = count * CLAUSE_WIDTH + slot;
            if (slot >= 0 && slot < CLAUSE_WIDTH && count < MOST_CLAUSES) {
                clauses[at] = number;
            }
        }

        int numberOf(int clause, int slot) {
            int at = clause * CLAUSE_WIDTH + slot;
            return at >= 0 && at < clauses.length ? clauses[at] : 0;
        }

        /** Where it was put, for a skip whose end is not yet known. */
        int add(int ask, int value) {
            if (size >= MOST_BYTES) {
                return NONE;
            }
            asks[size] = ask;
            values[size] = value;
            size++;
            return size - 1;
        }

        void skipToHere(int from) {
            if (from >= 0 && from < MOST_BYTES) {
                values[from] = size;
            }
        }
    }

    /** The TOKENS of a tape, with FINISH behind them. */
    private static final class Tokens {
        final int[] kinds = new int[MOST_BYTES + 1];
        final int[] places = new int[MOST_BYTES + 1];
        final int[] numbers = new int[MOST_BYTES + 1];
        int count;

        void cut(Tape tape) {
            count = 0;
            int at = 0;
            for (int turn = 0; turn < MOST_BYTES && at < tape.length; turn++) {
                at = cutOne(tape, at);
            }
            add(FINISH, tape.length, 0);
        }

        private int cutOne(Tape tape, int from) {
            int first = tape.bytes[from];
            if (first == ' ' || first == '\n') {
                return from + 1;
            }
            int behind = from + 1;
            if (isLetter(first)) {
                while (behind < tape.length && isLetter(tape.bytes[behind])) {
                    behind++;
                }
                add(wordOf(tape, from, behind), from, 0);
            } else if (isDigit(first)) {
                int number = first - '0';
                while (behind < tape.length && isDigit(tape.bytes[behind])) {
                    number = Math.min(LAST_NUMBER + 1, number * 10 + tape.bytes[behind] - '0');
                    behind++;
                }
                add(NUMBER, from, number);
            } else {
                int second = behind < tape.length ? tape.bytes[behind] : 0;
                int kind = signOf(first, second);
                behind += kind == AT_MOST || kind == AT_LEAST ? 1 : 0;
                add(kind, from, 0);
            }
            return behind;
        }

        private void add(int kind, int place, int number) {
            if (count <= MOST_BYTES) {
                kinds[count] = kind;
                places[count] = place;
                numbers[count] = number;
                count++;
            }
        }

        private static boolean isLetter(int b) {
            return b >= 'a' && b <= 'z' || b >= 'A' && b <= 'Z';
        }

        private static boolean isDigit(int b) {
            return b >= '0' && b <= '9';
        }

        private static int signOf(int first, int second) {
            if (first == '<' && second == '=') {
                return AT_MOST;
            }
            if (first == '>' && second == '=') {
                return AT_LEAST;
            }
            int place = SIGNS.indexOf((char) first);
            return place < 0 ? NO_TOKEN : FIRST_SIGN + place;
        }

        /** Goes along WORDS once, and looks at each word whether it is the tape's from its start on. */
        private static int wordOf(Tape tape, int from, int behind) {
            int word = 0;
            int alike = from;
            for (int i = 0; i <= WORDS.length(); i++) {
                int c = i < WORDS.length() ? WORDS.charAt(i) : ' ';
                if (c != ' ') {
                    boolean goesOn = alike >= 0 && alike < behind && tape.bytes[alike] == c;
                    alike = goesOn ? alike + 1 : NONE;
                } else if (alike == behind) {
                    return word;
                } else {
                    word++;
                    alike = from;
                }
            }
            return NO_TOKEN;
        }
    }

    /** Reads a tape into a TEXT, up to the first FAULT; each part answers whether it stands. */
    private static final class Reader {
        final Tokens tokens = new Tokens();
        Text into = new Text();
        int at;
        int kind;
        int number;
        int law;
        int fault;
        int place;

        void readInto(Text text, Tape tape) {
            into = text;
            text.clear();
            fault = 0;
            place = NONE;
            tokens.cut(tape);
            at = NONE;
            next();
            boolean stands = true;
            for (int i = 0; i <= MOST_CLAUSES && stands && kind != FINISH; i++) {
                stands = clause(text);
            }
        }

        private void next() {
            at = Math.min(at + 1, MOST_BYTES);
            kind = tokens.kinds[at];
            number = tokens.numbers[at];
        }

        private boolean refuse(int which) {
            fault = which;
            place = tokens.places[at];
            return false;
        }

        private boolean accept(int wanted) {
            if (kind != wanted) {
                return refuse(CANT_STAND);
            }
            next();
            return true;
        }

        private boolean clause(Text text) {
            int first = kind;
            if (first < RUNS || first > DAY) {
                return refuse(CANT_STAND);
            }
            if (text.has(first)) {
                return refuse(LAW_AGAIN);
            }
            if (text.count >= MOST_CLAUSES) {
                return refuse(TOO_MANY_CLAUSES);
            }
            text.startClause(first);
            next();
            law = first;
            boolean stands = first == RUNS || first == TAKES ? sum(0) : plain(first);
            if (!stands || !accept(STOP)) {
                return false;
            }
            text.endClause(first);
            return true;
        }

        private boolean plain(int first) {
            switch (first) {
                case PERSON:
                    return told(1, 0, ROADS - 1) && accept(WALK) && told(2, 1, LAST_PACE)
                            && accept(RUN) && told(3, 1, LAST_PACE)
                            && accept(DUE) && told(4, 0, LAST_DUE);
                case RING:
                    return told(1, 0, EVERYBODY);
                case DUE:
                    return told(1, 0, LAST_DUE) && accept(OF) && told(2, 0, MOST_PERSONS - 1);
                case DAY:
                    return told(1, 1, MOST_DAYS);
                default:
                    return told(1, 0, MOST_PERSONS - 1);
            }
        }

        private boolean told(int slot, int low, int high) {
            if (kind != NUMBER) {
                return refuse(CANT_STAND);
            }
            if (number < low || number > high) {
                return refuse(WRONG_NUMBER);
            }
            into.put(slot, number);
            next();
            return true;
        }

        private boolean sum(int open) {
            boolean stands = product(open);
            for (int i = 0; i < MOST_BYTES && stands && (kind == PLUS || kind == MINUS); i++) {
                int sign = kind;
                next();
                stands = product(open);
                into.add(sign, 0);
            }
            return stands;
        }

        private boolean product(int open) {
            boolean stands = one(open);
            for (int i = 0; i < MOST_BYTES && stands && (kind == STAR || kind == SLASH); i++) {
                int sign = kind;
                next();
                stands = one(open);
                into.add(sign, 0);
            }
            return stands;
        }

        private boolean one(int open) {
            switch (kind) {
                case NUMBER:
                    if (number > LAST_NUMBER) {
                        return refuse(WRONG_NUMBER);
                    }
                    into.add(NUMBER, number);
                    next();
                    return true;
                case OPEN:
                    return opens(open) && sum(open + 1) && accept(CLOSE);
                case MINUS:
                    return opens(open) && one(open + 1) && put(NEGATE);
                case RINGS:
                    return opens(open) && one(open + 1) && put(RINGS);
                case IF:
                    return opens(open) && choice(open + 1);
                default:
                    return name();
            }
        }

        private boolean opens(int open) {
            if (open >= MOST_OPEN) {
                return refuse(TOO_DEEP);
            }
            next();
            return true;
        }

        private boolean put(int ask) {
            into.add(ask, 0);
            return true;
        }

        private boolean name() {
            if (!isName(kind)) {
                return refuse(CANT_STAND);
            }
            boolean isOfRunsAlone = kind == HEARD;
            boolean isOfTakesAlone = kind == FAST || kind == JAM;
            if (isOfRunsAlone && law != RUNS || isOfTakesAlone && law != TAKES) {
                return refuse(WRONG_NAME);
            }
            into.add(kind, 0);
            next();
            return true;
        }

        /** Behind if: the ends of both skips are known when their SUMS have been read. */
        private boolean choice(int open) {
            if (!either(open) || !accept(THEN)) {
                return false;
            }
            int unless = into.add(THEN, 0);
            if (!sum(open) || !accept(ELSE)) {
                return false;
            }
            int over = into.add(ELSE, 0);
            into.skipToHere(unless);
            if (!sum(open) || !accept(END)) {
                return false;
            }
            into.skipToHere(over);
            return true;
        }

        private boolean either(int open) {
            boolean stands = both(open);
            for (int i = 0; i < MOST_BYTES && stands && (kind == OR || kind == XOR); i++) {
                int word = kind;
                next();
                stands = both(open);
                into.add(word, 0);
            }
            return stands;
        }

        private boolean both(int open) {
            boolean stands = ask(open);
            for (int i = 0; i < MOST_BYTES && stands && kind == AND; i++) {
                next();
                stands = ask(open);
                into.add(AND, 0);
            }
            return stands;
        }

        private boolean ask(int open) {
            if (kind == NOT) {
                return opens(open) && ask(open + 1) && put(NOT);
            }
            if (!sum(open)) {
                return false;
            }
            int sign = kind;
            if (sign < LESS || sign > AT_LEAST) {
                return refuse(CANT_STAND);
            }
            next();
            return sum(open) && put(sign);
        }
    }

    /**
     * Who runs and how long each takes, on a morning of another DAY or WEATHER, with others IN BED or
     * by another law than now; DUES are always those of now, for nothing that is asked changes them.
     */
    private static final class Morning {
        final Town town;
        final Text[] shelf;
        final int[] waiting = new int[MOST_BYTES];
        int day;
        int weather;
        int bed;
        Text law;
        int rings;
        int who;
        int rung;
        int fast;
        int jam;

        Morning(Town town, Text[] shelf) {
            this.town = town;
            this.shelf = shelf;
        }

        Text textOf(int number) {
            return number >= 0 && number < shelf.length ? shelf[number] : null;
        }

        void asNow() {
            asIn(town.now);
        }

        void asIn(Moment moment) {
            day = moment.day;
            weather = moment.weather;
            bed = moment.bed;
            law = textOf(town.ruling);
        }

        boolean isUp(int p) {
            return (bed >> p & 1) == 0;
        }

        /**
         * WOULD RUN; these RINGS are the ones that are asked for from here on. That runs is 9 at
         * most shows nowhere, for nobody asks by how much it is more than 0.
         */
        int runningBy(int bits) {
            Text text = law;
            boolean isRuled = text != null && text.runsFrom != NONE;
            rings = bits;
            int running = 0;
            for (int p = 0; p < town.count; p++) {
                who = p;
                rung = Integer.bitCount(rings & town.hears[p]);
                if (isUp(p) && (isRuled ? worked(text, text.runsFrom, text.runsTo) : rung) > 0) {
                    running |= 1 << p;
                }
            }
            return running;
        }

        /** WOULD BE LATE. */
        int lateBy(int bits) {
            int running = runningBy(bits);
            int lates = 0;
            for (int p = 0; p < town.count; p++) {
                int runsFast = running >> p & 1;
                if (isUp(p) && takesOf(p, runsFast, jamOf(p, running)) > town.now.dues[p]) {
                    lates |= 1 << p;
                }
            }
            return lates;
        }

        int takesAmong(int p, int running) {
            return takesOf(p, running >> p & 1, jamOf(p, running));
        }

        int jamOf(int p, int running) {
            return Integer.bitCount(running & town.onRoad[town.roads[p]] & ~(1 << p));
        }

        int takesOf(int p, int runsFast, int others) {
            Text text = law;
            if (text == null || text.takesFrom == NONE) {
                return (runsFast == 1 ? town.runs[p] : town.walks[p]) + others / 2;
            }
            who = p;
            fast = runsFast;
            jam = others;
            int says = worked(text, text.takesFrom, text.takesTo);
            return Math.max(0, Math.min(MOST_TAKES, says));
        }

        /** The value of a law; what waits is the values that are not yet used up, truths as 1 or 0. */
        private int worked(Text text, int from, int to) {
            int high = 0;
            for (int at = from; at >= 0 && at < to && at < MOST_BYTES; at++) {
                int ask = text.asks[at];
                if (ask == NUMBER || isName(ask)) {
                    if (high >= MOST_BYTES) {
                        return 0;
                    }
                    waiting[high] = ask == NUMBER ? text.values[at] : named(ask);
                    high++;
                } else if (ask == ELSE) {
                    at = Math.max(at, text.values[at] - 1);
                } else if (high < 1) {
                    return 0;
                } else if (ask == THEN) {
                    high--;
                    at = waiting[high] != 0 ? at : Math.max(at, text.values[at] - 1);
                } else if (ask == NEGATE || ask == RINGS || ask == NOT) {
                    waiting[high - 1] = turned(ask, waiting[high - 1]);
                } else if (high < 2) {
                    return 0;
                } else {
                    high--;
                    int left = waiting[high - 1];
                    int right = waiting[high];
                    boolean compares = ask >= LESS && ask <= AT_LEAST;
                    waiting[high - 1] = compares ? compared(ask, left, right)
                            : joined(ask, left, right);
                }
            }
            return high > 0 ? waiting[high - 1] : 0;
        }

        private int named(int name) {
            switch (name) {
                case DAY:
                    return day;
                case WEATHER:
                    return weather;
                case WHO:
                    return who;
                case ROAD:
                    return town.roads[who];
                case WALK:
                    return town.walks[who];
                case RUN:
                    return town.runs[who];
                case DUE:
                    return town.now.dues[who];
                case HEARD:
                    return rung;
                case FAST:
                    return fast;
                default:
                    return jam;
            }
        }

        private int turned(int ask, int value) {
            if (ask == NEGATE) {
                return -value;
            }
            if (ask == NOT) {
                return value == 0 ? 1 : 0;
            }
            return value >= 0 && value < MOST_PERSONS ? rings >> value & 1 : 0;
        }

        private static int compared(int ask, int left, int right) {
            switch (ask) {
                case LESS:
                    return left < right ? 1 : 0;
                case AT_MOST:
                    return left <= right ? 1 : 0;
                case MORE:
                    return left > right ? 1 : 0;
                case AT_LEAST:
                    return left >= right ? 1 : 0;
                case SAME:
                    return left == right ? 1 : 0;
                default:
                    return left != right ? 1 : 0;
            }
        }

        private static int joined(int ask, int left, int right) {
            long result = 0;
            switch (ask) {
                case PLUS:
                    result = (long) left + right;
                    break;
                case MINUS:
                    result = (long) left - right;
                    break;
                case STAR:
                    result = (long) left * right;
                    break;
                case SLASH:
                    result = right == 0 ? 0 : left / right;
                    break;
                case AND:
                    return left & right;
                case OR:
                    return left | right;
                default:
                    return left ^ right;
            }
            return result > LIMIT ? LIMIT : result < -LIMIT ? -LIMIT : (int) result;
        }
    }

    /** All that STEPS do, by hand, by a script, by draws, and as foretold. */
    private static final class Deeds {
        final Town town;
        final Morning morning;
        final Moment ahead = new Moment();

        Deeds(Town town, Morning morning) {
            this.town = town;
            this.morning = morning;
        }

        boolean ringFor(int persons) {
            if (!town.areRings(persons)) {
                return false;
            }
            town.markStep();
            town.now.rings = persons;
            return true;
        }

        boolean putOff(int person, int due) {
            if (!town.isPerson(person) || due < 0 || due > LAST_DUE) {
                return false;
            }
            if (town.now.dues[person] == due) {
                return false;
            }
            town.markStep();
            town.now.dues[person] = due;
            return true;
        }

        boolean goToBed(int person) {
            if (!town.isPerson(person) || (town.now.bed >> person & 1) == 1) {
                return false;
            }
            town.markStep();
            town.now.bed |= 1 << person;
            return true;
        }

        boolean getUp(int person) {
            if (!town.isPerson(person) || (town.now.bed >> person & 1) == 0) {
                return false;
            }
            town.markStep();
            town.now.bed &= ~(1 << person);
            return true;
        }

        int daysThatCanPass() {
            return LAST_DAY - town.now.day;
        }

        /** How many were LATE in them. */
        int passDays(int n) {
            int sum = 0;
            for (int i = 0; i < n; i++) {
                town.markStep();
                sum += passOne(town.now);
            }
            return sum;
        }

        private int passOne(Moment moment) {
            moment.weather = moment.x % WEATHERS;
            moment.stir();
            morning.asIn(moment);
            int lates = morning.lateBy(moment.rings);
            moment.endDay(lates);
            return Integer.bitCount(lates);
        }

        int foretell(int n, int what) {
            ahead.become(town.now);
            int sum = 0;
            for (int i = 0; i < n && ahead.day < LAST_DAY; i++) {
                sum += passOne(ahead);
            }
            if (what == 0) {
                return ahead.rings;
            }
            return what == 1 ? sum : ahead.weather;
        }

        /** Whether it can be; laws can, and do nothing. */
        boolean playClause(Text script, int i) {
            int first = script.numberOf(i, 1);
            int second = script.numberOf(i, 2);
            switch (script.numberOf(i, 0)) {
                case PERSON:
                    return town.tell(first, second, script.numberOf(i, 3), script.numberOf(i, 4))
                            != NONE;
                case RING:
                    return ringFor(first);
                case DUE:
                    return putOff(second, first);
                case BED:
                    return goToBed(first);
                case UP:
                    return getUp(first);
                case DAY:
                    boolean allCan = first <= daysThatCanPass();
                    passDays(allCan ? first : daysThatCanPass());
                    return allCan;
                default:
                    return true;
            }
        }

        void draw(int seed, int n) {
            town.markStep();
            town.now.x = seed * 2 + FIRST_X;
            for (int i = 0; i < n; i++) {
                int x = town.now.x;
                town.now.stir();
                drawOne(town.now, x);
            }
        }

        /** What can't be (a DUE that is so, in bed or up already) changes nothing here anyway. */
        private void drawOne(Moment now, int x) {
            int what = x % 6;
            if (what >= 4) {
                if (now.day < LAST_DAY) {
                    passOne(now);
                }
                return;
            }
            if (town.count <= 0) {
                return;
            }
            int p = x % town.count;
            switch (what) {
                case 0:
                    now.rings = 1 << p;
                    break;
                case 1:
                    now.dues[p] = x / 6 % 100;
                    break;
                case 2:
                    now.bed |= 1 << p;
                    break;
                default:
                    now.bed &= ~(1 << p);
                    break;
            }
        }
    }

    /** What RINGS lead to as things are now; each worked out once, till something is told or done. */
    private static final class Leads {
        final Town town;
        final Morning morning;
        final int[] to = new int[ALL_RINGS];
        /** The turn in which to was worked out; of the turns the latest alone holds. */
        final int[] known = new int[ALL_RINGS];
        final int[] marks = new int[ALL_RINGS];
        int turn = 1;

        Leads(Town town, Morning morning) {
            this.town = town;
            this.morning = morning;
        }

        void forget() {
            turn++;
        }

        int next(int rings) {
            if (known[rings] != turn) {
                morning.asNow();
                to[rings] = morning.lateBy(rings);
                known[rings] = turn;
            }
            return to[rings];
        }

        boolean isSettled(int rings) {
            return next(rings) == rings;
        }

        int settledCount() {
            int count = 0;
            for (int r = 0; r < town.allRings(); r++) {
                count += isSettled(r) ? 1 : 0;
            }
            return count;
        }

        int settledAt(int i) {
            int count = 0;
            for (int r = 0; r < town.allRings(); r++) {
                if (isSettled(r)) {
                    if (count == i) {
                        return r;
                    }
                    count++;
                }
            }
            return OTHER;
        }

        int settledForFewest(boolean most) {
            int best = NONE;
            for (int r = 0; r < town.allRings(); r++) {
                if (isSettled(r) && (best == NONE || isBetter(r, best, most))) {
                    best = r;
                }
            }
            return best;
        }

        int calmest(boolean most) {
            int best = 0;
            for (int r = 1; r < town.allRings(); r++) {
                if (isBetter(next(r), next(best), most)) {
                    best = r;
                }
            }
            return best;
        }

        private static boolean isBetter(int bits, int than, boolean most) {
            int many = Integer.bitCount(bits);
            int manyThan = Integer.bitCount(than);
            return most ? many > manyThan : many < manyThan;
        }

        /** Marks 1, 2, .. along the way; answers the first RINGS that come again. */
        private int walkFrom(int rings) {
            clearMarks();
            int r = rings;
            for (int time = 1; time <= town.allRings() && marks[r] == 0; time++) {
                marks[r] = time;
                r = next(r);
            }
            return r;
        }

        private void clearMarks() {
            for (int r = 0; r < town.allRings(); r++) {
                marks[r] = 0;
            }
        }

        int tailOf(int rings) {
            return marks[walkFrom(rings)] - 1;
        }

        int roundOf(int rings) {
            int again = walkFrom(rings);
            int count = 1;
            for (int r = next(again); r != again && count < town.allRings(); r = next(r)) {
                count++;
            }
            return count;
        }

        /** A way that comes to its own mark has found a round that no way before it had. */
        int roundCount() {
            clearMarks();
            int count = 0;
            for (int from = 0; from < town.allRings(); from++) {
                int r = from;
                for (int time = 0; time < town.allRings() && marks[r] == 0; time++) {
                    marks[r] = from + 1;
                    r = next(r);
                }
                if (marks[from] == from + 1 && marks[r] == from + 1) {
                    count++;
                }
            }
            return count;
        }

        int basinOf(int rings) {
            clearMarks();
            marks[rings] = 1;
            int count = 1;
            boolean grew = true;
            for (int time = 0; time < town.allRings() && grew; time++) {
                grew = false;
                for (int r = 0; r < town.allRings(); r++) {
                    if (marks[r] == 0 && marks[next(r)] == 1) {
                        marks[r] = 1;
                        count++;
                        grew = true;
                    }
                }
            }
            return count;
        }

        int neverLedTo() {
            clearMarks();
            int count = town.allRings();
            for (int r = 0; r < town.allRings(); r++) {
                int led = next(r);
                count -= marks[led] == 0 ? 1 : 0;
                marks[led] = 1;
            }
            return count;
        }

        int behind(int rings, int n) {
            int r = rings;
            for (int time = 0; time < n; time++) {
                r = next(r);
            }
            return r;
        }

        int timesTill(int a, int b) {
            int r = a;
            for (int time = 0; time < town.allRings(); time++) {
                if (r == b) {
                    return time;
                }
                r = next(r);
            }
            return NONE;
        }

        int timesApart(int a, int b) {
            int r = a;
            int s = b;
            for (int time = 0; time < town.allRings(); time++) {
                if (r == s) {
                    return time;
                }
                r = next(r);
                s = next(s);
            }
            return NONE;
        }

        boolean isLateByAll(int person) {
            for (int r = 0; r < town.allRings(); r++) {
                if ((next(r) >> person & 1) == 0) {
                    return false;
                }
            }
            return true;
        }

        /** From the last choice to the first: marks[r] is what comes, if r was chosen that far. */
        int raced(int n, boolean choice) {
            for (int r = 0; r < 1 << n; r++) {
                marks[r] = Integer.bitCount(next(r));
            }
            for (int p = n - 1; p > 0; p--) {
                for (int r = 0; r < 1 << p; r++) {
                    int rung = marks[r + (1 << p)];
                    marks[r] = p % 2 == 0 ? Math.max(marks[r], rung) : Math.min(marks[r], rung);
                }
            }
            if (choice) {
                return marks[1] > marks[0] ? 1 : 0;
            }
            return Math.max(marks[0], marks[1]);
        }
    }

    /** The SETTLED days by which all HEARD is so, and what follows from them. */
    private static final class Beliefs {
        final Town town;
        final Leads leads;
        final int[] days = new int[ALL_RINGS];
        /** Of each PERSON the days (bits) on which it is LATE. */
        final int[] lateOn = new int[MOST_PERSONS];
        /** Of each set of days how many must be asked at most to tell them apart. */
        int[] asked = new int[1];
        int count;

        Beliefs(Town town, Leads leads) {
            this.town = town;
            this.leads = leads;
        }

        void gather() {
            count = 0;
            for (int r = 0; r < town.allRings(); r++) {
                if (leads.next(r) == r && fitsHeard(r)) {
                    days[count] = r;
                    count++;
                }
            }
        }

        private boolean fitsHeard(int rings) {
            for (int i = 0; i < town.heard; i++) {
                if ((rings >> town.heardWho[i] & 1) != town.heardRung[i]) {
                    return false;
                }
            }
            return true;
        }

        int likely(int person, boolean low) {
            if (count == 0) {
                return NONE;
            }
            int upper = 0;
            for (int i = 0; i < count; i++) {
                upper += days[i] >> person & 1;
            }
            int common = commonOf(count, upper);
            return low ? count / common : upper / common;
        }

        /** The greatest number that divides both; at least 1. */
        private static int commonOf(int a, int b) {
            int left = a;
            int right = b;
            for (int i = 0; i < ALL_RINGS && right != 0; i++) {
                int rest = left % right;
                left = right;
                right = rest;
            }
            return Math.max(1, left);
        }

        int lateInAll() {
            int bits = (1 << town.count) - 1;
            for (int i = 0; i < count; i++) {
                bits &= days[i];
            }
            return bits;
        }

        int lateInNone() {
            int bits = (1 << town.count) - 1;
            for (int i = 0; i < count; i++) {
                bits &= ~days[i];
            }
            return bits;
        }

        /** Smaller sets have lower bits, so that what a question leaves is known by then. */
        void weigh() {
            for (int p = 0; p < town.count; p++) {
                lateOn[p] = 0;
                for (int i = 0; i < count; i++) {
                    lateOn[p] |= (days[i] >> p & 1) << i;
                }
            }
            if (asked.length < 1 << count) {
                asked = new int[1 << count];
            }
            for (int set = 0; set < 1 << count; set++) {
                asked[set] = Integer.bitCount(set) <= 1 ? 0 : fewestFor(set);
            }
        }

        private int fewestFor(int set) {
            int best = NO_HELP;
            for (int p = 0; p < town.count; p++) {
                best = Math.min(best, afterAsking(p, set));
            }
            return best;
        }

        /** A PERSON whose answer is known helps nothing. */
        private int afterAsking(int p, int set) {
            int lateThen = set & lateOn[p];
            int notThen = set & ~lateOn[p];
            if (lateThen == 0 || notThen == 0) {
                return NO_HELP;
            }
            return 1 + Math.max(asked[lateThen], asked[notThen]);
        }

        int mostAsked() {
            return asked[(1 << count) - 1];
        }

        int firstToAsk() {
            if (count <= 1) {
                return NONE;
            }
            int all = (1 << count) - 1;
            for (int p = 0; p < town.count; p++) {
                if (afterAsking(p, all) == asked[all]) {
                    return p;
                }
            }
            return NONE;
        }
    }
}
