import java.util.ArrayList;
import java.util.HashMap;
import java.util.HashSet;
import java.util.List;
import java.util.Map;
import java.util.Set;

/**
 * The document once more, written as plainly as can be and apart from the program: sets and lists
 * instead of bits and rows, a tree instead of a row of asks, copies of everything instead of steps
 * marked, and nothing kept from one question to the next. The tests hold the program against it.
 */
final class Plain {
    static final int NONE = -1;

    // ---- what is so ----

    static final class Person {
        int road, walk, run, due, late;
        boolean bed;

        Person copy() {
            Person p = new Person();
            p.road = road;
            p.walk = walk;
            p.run = run;
            p.due = due;
            p.late = late;
            p.bed = bed;
            return p;
        }
    }

    static final class State {
        List<Person> persons = new ArrayList<>();
        boolean[][] hears = new boolean[8][8];
        int rings, weather, day, x = 229;
        List<int[]> book = new ArrayList<>();
        List<State> steps = new ArrayList<>();
        List<PlainText> texts = new ArrayList<>();
        int theText = NONE;
        List<int[]> heard = new ArrayList<>();
        List<int[]> said = new ArrayList<>();

        State copyWithoutSteps() {
            State s = new State();
            for (Person p : persons) {
                s.persons.add(p.copy());
            }
            for (int i = 0; i < 8; i++) {
                s.hears[i] = hears[i].clone();
            }
            s.rings = rings;
            s.weather = weather;
            s.day = day;
            s.x = x;
            s.book.addAll(book);
            s.texts.addAll(texts);
            s.theText = theText;
            s.heard.addAll(heard);
            s.said.addAll(said);
            return s;
        }

        State copy() {
            State s = copyWithoutSteps();
            s.steps.addAll(steps);
            return s;
        }
    }

    State s = new State();
    State kept;
    final List<Integer> tape = new ArrayList<>();
    int[] lastFault;

    Plain() {
        for (boolean[] row : s.hears) {
            java.util.Arrays.fill(row, true);
        }
        kept = s.copy();
    }

    int all() {
        return 1 << s.persons.size();
    }

    boolean there(int p) {
        return p >= 0 && p < s.persons.size();
    }

    boolean rings(int r) {
        return r >= 0 && r < all();
    }

    // ---- laws ----

    /** Who runs, as bits. */
    static int run(State s, PlainText law, int rings) {
        int bits = 0;
        for (int p = 0; p < s.persons.size(); p++) {
            if (s.persons.get(p).bed) {
                continue;
            }
            int heard = 0;
            for (int q = 0; q < 8; q++) {
                if ((rings & (1 << q)) != 0 && s.hears[p][q]) {
                    heard++;
                }
            }
            long says;
            if (law == null || law.runs == null) {
                says = heard > 0 ? 1 : 0;
            } else {
                Map<String, Long> names = names(s, p);
                names.put("heard", (long) heard);
                says = Math.max(0, Math.min(9, law.runs.value(names, rings)));
            }
            if (says > 0) {
                bits |= 1 << p;
            }
        }
        return bits;
    }

    static Map<String, Long> names(State s, int p) {
        Person one = s.persons.get(p);
        Map<String, Long> names = new HashMap<>();
        names.put("day", (long) s.day);
        names.put("weather", (long) s.weather);
        names.put("who", (long) p);
        names.put("road", (long) one.road);
        names.put("walk", (long) one.walk);
        names.put("run", (long) one.run);
        names.put("due", (long) one.due);
        return names;
    }

    /** What takes says for one, if just these run. */
    static int takes(State s, PlainText law, int rings, int p, int running) {
        Person one = s.persons.get(p);
        boolean fast = (running & (1 << p)) != 0;
        int jam = 0;
        for (int q = 0; q < s.persons.size(); q++) {
            if (q != p && (running & (1 << q)) != 0 && s.persons.get(q).road == one.road) {
                jam++;
            }
        }
        if (law == null || law.takes == null) {
            return (fast ? one.run : one.walk) + jam / 2;
        }
        Map<String, Long> names = names(s, p);
        names.put("fast", fast ? 1L : 0L);
        names.put("jam", (long) jam);
        return (int) Math.max(0, Math.min(999, law.takes.value(names, rings)));
    }

    static int wouldBeLate(State s, int rings) {
        PlainText law = ruling(s);
        int running = run(s, law, rings);
        int bits = 0;
        for (int p = 0; p < s.persons.size(); p++) {
            Person one = s.persons.get(p);
            if (!one.bed && takes(s, law, rings, p, running) > one.due) {
                bits |= 1 << p;
            }
        }
        return bits;
    }

    static PlainText ruling(State s) {
        return s.theText == NONE ? null : s.texts.get(s.theText);
    }

    // ---- what is told ----

    int person(int road, int walk, int run, int due) {
        if (road < 0 || road > 3 || walk < 1 || walk > 99 || run < 1 || run > 99
                || due < 0 || due > 99 || s.persons.size() == 8) {
            return NONE;
        }
        Person p = new Person();
        p.road = road;
        p.walk = walk;
        p.run = run;
        p.due = due;
        s.persons.add(p);
        return s.persons.size() - 1;
    }

    boolean hears(int p, int q, boolean does) {
        if (p < 0 || p > 7 || q < 0 || q > 7) {
            return false;
        }
        s.hears[p][q] = does;
        return true;
    }

    int feed(int a, int b, int c, int d, int e) {
        if (tape.size() > 280) {
            return NONE;
        }
        for (int word : new int[] {a, b, c, d, e}) {
            tape.add(word >>> 24);
            tape.add(word >>> 16 & 255);
            tape.add(word >>> 8 & 255);
            tape.add(word & 255);
        }
        return tape.size();
    }

    int end(int n) {
        if (n < 0 || n > tape.size()) {
            return NONE;
        }
        while (tape.size() > n) {
            tape.remove(tape.size() - 1);
        }
        return n;
    }

    int text() {
        if (s.texts.size() == 4) {
            return NONE;
        }
        StringBuilder bytes = new StringBuilder();
        for (int b : tape) {
            bytes.append((char) b);
        }
        tape.clear();
        PlainText read = new PlainText(bytes.toString());
        lastFault = new int[] {read.fault, read.fault == 0 ? NONE : read.place};
        if (read.fault != 0) {
            return NONE;
        }
        s.texts.add(read);
        return s.texts.size() - 1;
    }

    int fault(int what) {
        return lastFault == null || what < 0 || what > 1 ? NONE : lastFault[what];
    }

    boolean by(int text) {
        if (text < -1 || text >= s.texts.size()) {
            return false;
        }
        s.theText = text;
        return true;
    }

    // ---- what is done ----

    void step() {
        s.steps.add(s.copyWithoutSteps());
        if (s.steps.size() > 30) {
            s.steps.remove(0);
        }
    }

    boolean ring(int persons) {
        if (!rings(persons)) {
            return false;
        }
        step();
        s.rings = persons;
        return true;
    }

    boolean due(int person, int due) {
        if (!there(person) || due < 0 || due > 99 || s.persons.get(person).due == due) {
            return false;
        }
        step();
        s.persons.get(person).due = due;
        return true;
    }

    boolean bed(int person) {
        if (!there(person) || s.persons.get(person).bed) {
            return false;
        }
        step();
        s.persons.get(person).bed = true;
        return true;
    }

    boolean up(int person) {
        if (!there(person) || !s.persons.get(person).bed) {
            return false;
        }
        step();
        s.persons.get(person).bed = false;
        return true;
    }

    static void anew(State s) {
        s.x = (int) ((s.x * 463L + 353) % 30643);
    }

    /** One DAY: how many are late. */
    static int pass(State s) {
        s.weather = s.x % 10;
        anew(s);
        int late = wouldBeLate(s, s.rings);
        for (int p = 0; p < s.persons.size(); p++) {
            if ((late & (1 << p)) != 0) {
                s.persons.get(p).late++;
            }
        }
        s.book.add(new int[] {s.day, s.rings, late, s.weather});
        if (s.book.size() > 30) {
            s.book.remove(0);
        }
        s.rings = late;
        s.day++;
        return Integer.bitCount(late);
    }

    int day(int n) {
        if (n < 1 || n > 60 || s.day + n > 9999) {
            return NONE;
        }
        int sum = 0;
        for (int i = 0; i < n; i++) {
            step();
            sum += pass(s);
        }
        return sum;
    }

    int played(int text) {
        if (text < 0 || text >= s.texts.size()) {
            return -2;
        }
        List<String[]> clauses = s.texts.get(text).clauses;
        for (int i = 0; i < clauses.size(); i++) {
            if (!play(clauses.get(i))) {
                return i;
            }
        }
        return NONE;
    }

    private boolean play(String[] c) {
        int n = c.length > 1 && c[1] != null ? Integer.parseInt(c[1]) : 0;
        switch (c[0]) {
            case "person":
                return person(n, Integer.parseInt(c[2]), Integer.parseInt(c[3]),
                        Integer.parseInt(c[4])) != NONE;
            case "ring":
                return ring(n);
            case "due":
                return due(Integer.parseInt(c[2]), n);
            case "bed":
                return bed(n);
            case "up":
                return up(n);
            case "day":
                for (int i = 0; i < n; i++) {
                    if (day(1) == NONE) {
                        return false;
                    }
                }
                return true;
            default:
                return true;
        }
    }

    int years(int seed, int n) {
        if (seed < 0 || seed > 9999 || n < 1 || n > 40) {
            return NONE;
        }
        step();
        s.x = seed * 2 + 229;
        for (int i = 0; i < n; i++) {
            int x = s.x;
            anew(s);
            int what = x % 6;
            if (what == 4 || what == 5) {
                if (s.day < 9999) {
                    pass(s);
                }
            } else if (!s.persons.isEmpty()) {
                int p = x % s.persons.size();
                if (what == 0) {
                    s.rings = 1 << p;
                } else if (what == 1) {
                    s.persons.get(p).due = x / 6 % 100;
                } else {
                    s.persons.get(p).bed = what == 2;
                }
            }
        }
        return s.day;
    }

    int undo() {
        if (s.steps.isEmpty()) {
            return NONE;
        }
        State was = s.steps.remove(s.steps.size() - 1);
        s.rings = was.rings;
        s.weather = was.weather;
        s.day = was.day;
        s.x = was.x;
        s.book = new ArrayList<>(was.book);
        for (int p = 0; p < was.persons.size(); p++) {
            s.persons.set(p, was.persons.get(p).copy());
        }
        return s.steps.size();
    }

    // ---- what is asked ----

    int runNow() {
        return run(s, ruling(s), s.rings);
    }

    int takesNow(int p) {
        return takes(s, ruling(s), s.rings, p, runNow());
    }

    int of(int person, int what) {
        if (!there(person)) {
            return NONE;
        }
        Person p = s.persons.get(person);
        int hears = 0;
        for (int q = 0; q < 8; q++) {
            hears += s.hears[person][q] ? 1 << q : 0;
        }
        int[] answers = {p.road, p.walk, p.run, p.due, p.bed ? 1 : 0, p.late,
            (runNow() & (1 << person)) != 0 ? 1 : 0, takesNow(person), hears};
        return what < 0 || what > 8 ? NONE : answers[what];
    }

    int is(int what) {
        int[] answers = {s.day, s.rings, s.weather, s.x};
        return what < 0 || what > 3 ? -2 : answers[what];
    }

    int book(int i, int what) {
        if (i == NONE) {
            return s.book.size();
        }
        return i < 0 || i >= s.book.size() || what < 0 || what > 3 ? -2 : s.book.get(i)[what];
    }

    int foretold(int n, int what) {
        if (n < 1 || n > 60 || what < 0 || what > 2) {
            return NONE;
        }
        State t = s.copyWithoutSteps();
        int sum = 0;
        for (int i = 0; i < n; i++) {
            if (t.day < 9999) {
                sum += pass(t);
            }
        }
        return new int[] {t.rings, sum, t.weather}[what];
    }

    int late(int rings) {
        return rings(rings) ? wouldBeLate(s, rings) : NONE;
    }

    int runners(int rings) {
        return rings(rings) ? run(s, ruling(s), rings) : NONE;
    }

    List<Integer> settledDays() {
        List<Integer> days = new ArrayList<>();
        for (int r = 0; r < all(); r++) {
            if (late(r) == r) {
                days.add(r);
            }
        }
        return days;
    }

    int settled(int i) {
        List<Integer> days = settledDays();
        if (i == NONE) {
            return days.size();
        }
        return i < 0 || i >= days.size() ? -2 : days.get(i);
    }

    int fewest(boolean most) {
        int best = NONE;
        for (int r : settledDays()) {
            int sign = most ? -1 : 1;
            if (best == NONE || sign * Integer.bitCount(r) < sign * Integer.bitCount(best)) {
                best = r;
            }
        }
        return best;
    }

    /** The way from RINGS on, ending with the first that came before. */
    List<Integer> way(int rings) {
        List<Integer> way = new ArrayList<>();
        int r = rings;
        while (!way.contains(r)) {
            way.add(r);
            r = late(r);
        }
        way.add(r);
        return way;
    }

    int tail(int rings) {
        if (!rings(rings)) {
            return NONE;
        }
        List<Integer> way = way(rings);
        return way.indexOf(way.get(way.size() - 1));
    }

    int round(int rings) {
        return rings(rings) ? way(rings).size() - 1 - tail(rings) : NONE;
    }

    int rounds() {
        Set<Set<Integer>> found = new HashSet<>();
        for (int r = 0; r < all(); r++) {
            List<Integer> way = way(r);
            found.add(new HashSet<>(way.subList(tail(r), way.size())));
        }
        return found.size();
    }

    int basin(int rings) {
        if (!rings(rings)) {
            return NONE;
        }
        int count = 0;
        for (int r = 0; r < all(); r++) {
            count += way(r).contains(rings) ? 1 : 0;
        }
        return count;
    }

    int never() {
        Set<Integer> led = new HashSet<>();
        for (int r = 0; r < all(); r++) {
            led.add(late(r));
        }
        return all() - led.size();
    }

    int after(int rings, int n) {
        if (!rings(rings) || n < 0 || n > 60) {
            return NONE;
        }
        int r = rings;
        for (int i = 0; i < n; i++) {
            r = late(r);
        }
        return r;
    }

    int times(int a, int b) {
        return rings(a) && rings(b) ? way(a).indexOf(b) : NONE;
    }

    int apart(int a, int b) {
        if (!rings(a) || !rings(b)) {
            return NONE;
        }
        int r = a;
        int t = b;
        // Behind 256 times both are in their rounds, and go on side by side for ever.
        for (int i = 0; i <= 256; i++) {
            if (r == t) {
                return i;
            }
            r = late(r);
            t = late(t);
        }
        return NONE;
    }

    int always() {
        int count = 0;
        for (int r = 0; r < all(); r++) {
            boolean each = true;
            for (int w = 0; w < 10; w++) {
                State t = s.copyWithoutSteps();
                t.weather = w;
                each &= wouldBeLate(t, r) == r;
            }
            count += each ? 1 : 0;
        }
        return count;
    }

    int calm(boolean most) {
        int best = 0;
        for (int r = 0; r < all(); r++) {
            int here = Integer.bitCount(late(r));
            int there = Integer.bitCount(late(best));
            if (most ? here > there : here < there) {
                best = r;
            }
        }
        return best;
    }

    int helped(int rings, boolean harmed) {
        if (!rings(rings)) {
            return NONE;
        }
        int bits = 0;
        for (int p = 0; p < s.persons.size(); p++) {
            boolean byNone = (late(0) & (1 << p)) != 0;
            boolean byThese = (late(rings) & (1 << p)) != 0;
            if (harmed ? !byNone && byThese : byNone && !byThese) {
                bits |= 1 << p;
            }
        }
        return bits;
    }

    int early(int rings) {
        if (!rings(rings)) {
            return NONE;
        }
        int sum = 0;
        for (int p = 0; p < s.persons.size(); p++) {
            int takes = takes(s, ruling(s), rings, p, runners(rings));
            if (!s.persons.get(p).bed && takes < s.persons.get(p).due) {
                sum += s.persons.get(p).due - takes;
            }
        }
        return sum;
    }

    int weathers(int person) {
        if (!there(person)) {
            return NONE;
        }
        int count = 0;
        for (int w = 0; w < 10; w++) {
            State t = s.copyWithoutSteps();
            t.weather = w;
            count += (wouldBeLate(t, s.rings) & (1 << person)) != 0 ? 1 : 0;
        }
        return count;
    }

    boolean walkingInTime(int p) {
        int others = runNow() & ~(1 << p);
        return takes(s, ruling(s), s.rings, p, others) <= s.persons.get(p).due;
    }

    int needless() {
        int bits = 0;
        for (int p = 0; p < s.persons.size(); p++) {
            if ((runNow() & (1 << p)) != 0 && walkingInTime(p)) {
                bits |= 1 << p;
            }
        }
        return bits;
    }

    int lateness(int person) {
        if (!there(person)) {
            return NONE;
        }
        int bit = 1 << person;
        if ((late(s.rings) & bit) == 0) {
            return 0;
        }
        boolean byAll = true;
        for (int r = 0; r < all(); r++) {
            byAll &= (late(r) & bit) != 0;
        }
        if (byAll) {
            return 1;
        }
        if ((runNow() & bit) != 0 && walkingInTime(person)) {
            return 2;
        }
        boolean alone = takes(s, ruling(s), s.rings, person, runNow() & bit)
                <= s.persons.get(person).due;
        return alone ? 3 : 4;
    }

    int race(int n, boolean choice) {
        if (n < 1 || n > s.persons.size()) {
            return NONE;
        }
        int not = raced(1, n, 0);
        int does = raced(1, n, 1);
        if (choice) {
            return does > not ? 1 : 0;
        }
        return Math.max(not, does);
    }

    private int raced(int p, int n, int rings) {
        if (p == n) {
            return Integer.bitCount(late(rings));
        }
        int not = raced(p + 1, n, rings);
        int does = raced(p + 1, n, rings | 1 << p);
        return p % 2 == 0 ? Math.max(not, does) : Math.min(not, does);
    }

    int heard(int person, boolean rung) {
        if (person == NONE) {
            s.heard.clear();
            return 0;
        }
        if (!there(person) || s.heard.size() == 8) {
            return -2;
        }
        s.heard.add(new int[] {person, rung ? 1 : 0});
        return s.heard.size();
    }

    List<Integer> believed() {
        List<Integer> days = settledDays();
        for (int[] h : s.heard) {
            days.removeIf(r -> (r >> h[0] & 1) != h[1]);
        }
        return days;
    }

    int believes(int person, boolean low) {
        List<Integer> days = believed();
        if (!there(person) || days.isEmpty()) {
            return NONE;
        }
        int upper = 0;
        for (int r : days) {
            upper += r >> person & 1;
        }
        int lower = days.size();
        for (int d = lower; d > 1; d--) {
            if (upper % d == 0 && lower % d == 0) {
                upper /= d;
                lower /= d;
            }
        }
        return low ? lower : upper;
    }

    int sure(boolean late) {
        List<Integer> days = believed();
        if (days.isEmpty()) {
            return NONE;
        }
        int bits = 0;
        for (int p = 0; p < s.persons.size(); p++) {
            boolean sure = true;
            for (int r : days) {
                sure &= (r >> p & 1) == (late ? 1 : 0);
            }
            bits |= sure ? 1 << p : 0;
        }
        return bits;
    }

    int tells(int what) {
        List<Integer> days = believed();
        if (what < 0 || what > 1 || days.size() > 12) {
            return NONE;
        }
        Map<List<Integer>, int[]> known = new HashMap<>();
        return ask(days, known)[what];
    }

    /** The PERSON to ask first, and how many must be asked at most. */
    private int[] ask(List<Integer> days, Map<List<Integer>, int[]> known) {
        if (days.size() <= 1) {
            return new int[] {NONE, 0};
        }
        if (known.containsKey(days)) {
            return known.get(days);
        }
        int[] best = null;
        for (int p = 0; p < s.persons.size(); p++) {
            List<Integer> yes = new ArrayList<>();
            List<Integer> no = new ArrayList<>();
            for (int r : days) {
                (((r >> p & 1) == 1) ? yes : no).add(r);
            }
            if (yes.isEmpty() || no.isEmpty()) {
                continue;
            }
            int most = 1 + Math.max(ask(yes, known)[1], ask(no, known)[1]);
            if (best == null || most < best[1]) {
                best = new int[] {p, most};
            }
        }
        known.put(days, best);
        return best;
    }

    int asleep(boolean many) {
        int best = NONE;
        for (int set = 0; set < all(); set++) {
            State t = s.copyWithoutSteps();
            boolean may = true;
            for (int p = 0; p < t.persons.size(); p++) {
                boolean in = (set & (1 << p)) != 0;
                may &= in || !t.persons.get(p).bed;
                t.persons.get(p).bed = in;
            }
            if (may && wouldBeLate(t, 0) == 0
                    && (best == NONE || Integer.bitCount(set) < Integer.bitCount(best))) {
                best = set;
            }
        }
        return many ? Integer.bitCount(best) : best;
    }

    int slack(int person) {
        return there(person) ? s.persons.get(person).due - takesNow(person) : -1000;
    }

    int least(int person) {
        return there(person) ? Math.min(99, takesNow(person)) : NONE;
    }

    int moves(int p, int q) {
        if (!there(p) || !there(q)) {
            return NONE;
        }
        boolean without = (late(s.rings & ~(1 << p)) & (1 << q)) != 0;
        boolean with = (late(s.rings | (1 << p)) & (1 << q)) != 0;
        return without != with ? 1 : 0;
    }

    int said(int person, int takes) {
        if (person == NONE) {
            s.said.clear();
            return 0;
        }
        if (!there(person) || takes < 0 || takes > 999 || s.said.size() == 8) {
            return -2;
        }
        s.said.add(new int[] {person, takes});
        return s.said.size();
    }

    int whose() {
        int bits = 0;
        for (int t = 0; t < s.texts.size(); t++) {
            PlainText law = s.texts.get(t);
            boolean so = true;
            for (int[] one : s.said) {
                so &= takes(s, law, s.rings, one[0], run(s, law, s.rings)) == one[1];
            }
            bits |= so ? 1 << t : 0;
        }
        return bits;
    }

    int latest() {
        int best = NONE;
        for (int p = 0; p < s.persons.size(); p++) {
            int most = best == NONE ? 0 : s.persons.get(best).late;
            if (s.persons.get(p).late > most) {
                best = p;
            }
        }
        return best;
    }

    int crowded() {
        int[] many = new int[4];
        for (int p = 0; p < s.persons.size(); p++) {
            if ((runNow() & (1 << p)) != 0) {
                many[s.persons.get(p).road]++;
            }
        }
        int best = 0;
        for (int road = 0; road < 4; road++) {
            if (many[road] > many[best]) {
                best = road;
            }
        }
        return best;
    }

    int deaf() {
        int bits = 0;
        for (int p = 0; p < s.persons.size(); p++) {
            boolean hears = false;
            for (int q = 0; q < s.persons.size(); q++) {
                hears |= s.hears[p][q];
            }
            bits |= hears ? 0 : 1 << p;
        }
        return bits;
    }

    int ledger(int person) {
        if (person != NONE && !there(person)) {
            return -2;
        }
        int count = 0;
        for (int[] page : s.book) {
            for (int p = 0; p < 8; p++) {
                if ((person == NONE || person == p) && (page[2] & (1 << p)) != 0) {
                    count++;
                }
            }
        }
        return count;
    }

    int image() {
        kept = s.copy();
        return s.day;
    }

    int back() {
        s = kept.copy();
        return s.day;
    }

    int about(int what) {
        int[] answers = {s.persons.size(), s.texts.size(), s.theText, s.steps.size(),
            s.heard.size(), s.said.size(), tape.size()};
        return what < 0 || what > 6 ? -2 : answers[what];
    }
}
