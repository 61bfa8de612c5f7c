import java.util.ArrayList;
import java.util.List;

/** Runs of drawn calls on the program and on the plain reading of the document, side by side. */
public final class AgainstPlainTest {
    private static int wrong = 0;

    private final int run;
    private final Draws draws;
    private final Writing writing;
    private final TollsForLate x = new TollsForLate();
    private final Plain y = new Plain();
    private final List<String> calls = new ArrayList<>();

    private AgainstPlainTest(int run) {
        this.run = run;
        draws = new Draws(run);
        writing = new Writing(draws);
    }

    private void same(String call, long got, long want) {
        calls.add(call + " = " + want);
        if (got != want) {
            wrong++;
            if (wrong <= 20) {
                System.out.println("run " + run + ", call " + calls.size() + ": " + call
                        + " answered " + got + ", due is " + want);
            }
            if (wrong == 1) {
                System.out.println("  " + String.join("\n  ", calls));
            }
        }
    }

    private void same(String call, boolean got, boolean want) {
        same(call, got ? 1 : 0, want ? 1 : 0);
    }

    /** Around the edges, and now and then far beyond them. */
    private int odd(int low, int high) {
        int[] far = {Integer.MIN_VALUE, Integer.MIN_VALUE + 1, Integer.MAX_VALUE, 1 << 30, -65536, 65536};
        return draws.oneIn(3) ? far[draws.below(far.length)] : draws.from(low, high);
    }

    private int who() {
        int n = y.s.persons.size();
        return draws.oneIn(12) ? odd(-2, 9) : draws.below(Math.max(1, n));
    }

    private int bits() {
        int n = y.s.persons.size();
        return draws.oneIn(15) ? odd(-2, 300) : draws.below(1 << n);
    }

    private int what(int most) {
        return draws.oneIn(12) ? odd(-3, most + 3) : draws.below(most + 1);
    }

    /** A TEXT is fed in whole rows, and what is too much cut off. */
    private void write(String text) {
        if (draws.oneIn(2)) {
            same("end(0)", x.end(0), y.end(0));
        }
        int before = y.tape.size();
        for (int i = 0; i < text.length(); i += 20) {
            int[] w = new int[5];
            for (int j = 0; j < 20; j++) {
                int b = i + j < text.length() ? text.charAt(i + j) & 255 : draws.below(256);
                w[j / 4] |= b << 24 - j % 4 * 8;
            }
            same("feed(" + w[0] + ", ..)", x.feed(w[0], w[1], w[2], w[3], w[4]),
                    y.feed(w[0], w[1], w[2], w[3], w[4]));
        }
        int n = before + text.length() + (draws.oneIn(20) ? draws.from(-3, 3) : 0);
        same("end(" + n + ")", x.end(n), y.end(n));
        if (draws.oneIn(30)) {
            n = odd(-2, 310);
            same("end(" + n + ")", x.end(n), y.end(n));
        }
        same("text() of " + text, x.text(), y.text());
        same("fault(0)", x.fault(0), y.fault(0));
        same("fault(1)", x.fault(1), y.fault(1));
        same("about(6)", x.about(6), y.about(6));
    }

    private void tell() {
        int a = what(3);
        int b = draws.oneIn(20) ? draws.from(-1, 101) : draws.from(1, 45);
        int c = draws.oneIn(20) ? draws.from(-1, 101) : draws.from(1, 30);
        int d = draws.oneIn(20) ? draws.from(-2, 102) : draws.from(0, 45);
        same("person(" + a + ", " + b + ", " + c + ", " + d + ")", x.person(a, b, c, d),
                y.person(a, b, c, d));
    }

    private void does() {
        int p = who();
        int r = bits();
        int n = draws.oneIn(8) ? odd(-1, 62) : draws.from(1, 4);
        switch (draws.below(16)) {
            case 0:
                if (y.s.persons.size() < 5 || draws.oneIn(6)) {
                    tell();
                }
                break;
            case 1:
                int q = draws.from(-1, 8);
                int v = draws.from(-1, 8);
                boolean does = draws.oneIn(2);
                same("hears(" + v + ", " + q + ", " + does + ")", x.hears(v, q, does),
                        y.hears(v, q, does));
                break;
            case 2:
            case 3:
                if (calls.size() < 420) {
                    write(writing.text());
                }
                break;
            case 4:
            case 5:
                int t = draws.oneIn(6) ? odd(-3, 5)
                        : draws.below(Math.max(1, y.s.texts.size()));
                same("by(" + t + ")", x.by(t), y.by(t));
                break;
            case 6:
                same("ring(" + r + ")", x.ring(r), y.ring(r));
                break;
            case 7:
                int due = draws.oneIn(5) ? odd(-1, 100) : draws.below(45);
                same("due(" + p + ", " + due + ")", x.due(p, due), y.due(p, due));
                break;
            case 8:
                same("bed(" + p + ")", x.bed(p), y.bed(p));
                break;
            case 9:
                same("up(" + p + ")", x.up(p), y.up(p));
                break;
            case 10:
                same("day(" + n + ")", x.day(n), y.day(n));
                break;
            case 11:
                int u = draws.oneIn(5) ? odd(-2, 4)
                        : draws.below(Math.max(1, y.s.texts.size()));
                same("played(" + u + ")", x.played(u), y.played(u));
                break;
            case 12:
                int seed = draws.oneIn(9) ? odd(-1, 10001) : draws.below(10000);
                int m = draws.oneIn(9) ? odd(-1, 42) : draws.from(1, 40);
                same("years(" + seed + ", " + m + ")", x.years(seed, m), y.years(seed, m));
                break;
            case 13:
                same("undo()", x.undo(), y.undo());
                break;
            case 14:
                if (draws.oneIn(4)) {
                    same("image()", x.image(), y.image());
                } else if (draws.oneIn(4)) {
                    same("back()", x.back(), y.back());
                }
                break;
            default:
                boolean rung = draws.oneIn(2);
                int h = draws.oneIn(6) ? -1 : p;
                same("heard(" + h + ", " + rung + ")", x.heard(h, rung), y.heard(h, rung));
                int s = draws.oneIn(9) ? -1 : who();
                int takes = y.there(s) && !draws.oneIn(4) ? y.of(s, 7) : odd(-1, 1001);
                same("said(" + s + ", " + takes + ")", x.said(s, takes), y.said(s, takes));
                break;
        }
    }

    private void asks() {
        int p = who();
        int q = who();
        int r = bits();
        int t = bits();
        boolean b = draws.oneIn(2);
        int n = draws.oneIn(8) ? odd(-2, 63) : draws.below(5);
        switch (draws.below(38)) {
            case 0:
                int w = what(8);
                same("of(" + p + ", " + w + ")", x.of(p, w), y.of(p, w));
                break;
            case 1:
                int i = what(3);
                same("is(" + i + ")", x.is(i), y.is(i));
                break;
            case 2:
                int page = draws.oneIn(8) ? odd(-2, 31) : draws.from(-1, 29);
                int row = what(3);
                same("book(" + page + ", " + row + ")", x.book(page, row), y.book(page, row));
                break;
            case 3:
                int f = what(2);
                same("foretold(" + n + ", " + f + ")", x.foretold(n, f), y.foretold(n, f));
                break;
            case 4:
                same("late(" + r + ")", x.late(r), y.late(r));
                break;
            case 5:
                same("runners(" + r + ")", x.runners(r), y.runners(r));
                break;
            case 6:
                same("settled(-1)", x.settled(-1), y.settled(-1));
                break;
            case 7:
                same("settled(" + n + ")", x.settled(n), y.settled(n));
                break;
            case 8:
                same("fewest(" + b + ")", x.fewest(b), y.fewest(b));
                break;
            case 9:
                same("tail(" + r + ")", x.tail(r), y.tail(r));
                break;
            case 10:
                same("round(" + r + ")", x.round(r), y.round(r));
                break;
            case 11:
                same("rounds()", x.rounds(), y.rounds());
                break;
            case 12:
                same("basin(" + r + ")", x.basin(r), y.basin(r));
                break;
            case 13:
                same("never()", x.never(), y.never());
                break;
            case 14:
                same("after(" + r + ", " + n + ")", x.after(r, n), y.after(r, n));
                break;
            case 15:
                same("times(" + r + ", " + t + ")", x.times(r, t), y.times(r, t));
                break;
            case 16:
                same("apart(" + r + ", " + t + ")", x.apart(r, t), y.apart(r, t));
                break;
            case 17:
                same("always()", x.always(), y.always());
                break;
            case 18:
                same("calm(" + b + ")", x.calm(b), y.calm(b));
                break;
            case 19:
                same("helped(" + r + ", " + b + ")", x.helped(r, b), y.helped(r, b));
                break;
            case 20:
                same("early(" + r + ")", x.early(r), y.early(r));
                break;
            case 21:
                same("weathers(" + p + ")", x.weathers(p), y.weathers(p));
                break;
            case 22:
                same("needless()", x.needless(), y.needless());
                break;
            case 23:
                same("lateness(" + p + ")", x.lateness(p), y.lateness(p));
                break;
            case 24:
                int first = draws.oneIn(9) ? draws.from(-1, 9)
                        : draws.from(1, Math.max(1, y.s.persons.size()));
                same("race(" + first + ", " + b + ")", x.race(first, b), y.race(first, b));
                break;
            case 25:
                same("believes(" + p + ", " + b + ")", x.believes(p, b), y.believes(p, b));
                break;
            case 26:
                same("sure(" + b + ")", x.sure(b), y.sure(b));
                break;
            case 27:
                int which = what(1);
                same("tells(" + which + ")", x.tells(which), y.tells(which));
                break;
            case 28:
                same("asleep(" + b + ")", x.asleep(b), y.asleep(b));
                break;
            case 29:
                same("slack(" + p + ")", x.slack(p), y.slack(p));
                break;
            case 30:
                same("least(" + p + ")", x.least(p), y.least(p));
                break;
            case 31:
                same("moves(" + p + ", " + q + ")", x.moves(p, q), y.moves(p, q));
                break;
            case 32:
                same("whose()", x.whose(), y.whose());
                break;
            case 33:
                same("latest()", x.latest(), y.latest());
                break;
            case 34:
                same("crowded()", x.crowded(), y.crowded());
                break;
            case 35:
                same("deaf()", x.deaf(), y.deaf());
                break;
            case 36:
                int l = draws.oneIn(3) ? -1 : p;
                same("ledger(" + l + ")", x.ledger(l), y.ledger(l));
                break;
            default:
                int a = what(6);
                same("about(" + a + ")", x.about(a), y.about(a));
                break;
        }
    }

    /** By a script, for the days by hand would be too many calls. */
    private void toLastDays() {
        write("day 60;".repeat(24));
        for (int i = 0; i < 6; i++) {
            same("played(0)", x.played(0), y.played(0));
        }
        for (int i = 0; i < 22; i++) {
            same("day(60)", x.day(60), y.day(60));
        }
        int n = draws.from(20, 39);
        same("day(" + n + ")", x.day(n), y.day(n));
        same("is(0)", x.is(0), y.is(0));
        if (draws.oneIn(2)) {
            same("image()", x.image(), y.image());
        }
    }

    private void go() {
        int persons = run % 9;
        for (int i = 0; i < persons; i++) {
            tell();
        }
        if (run % 7 == 3) {
            toLastDays();
        }
        int rest = persons >= 7 ? 140 : 480;
        while (calls.size() < rest) {
            if (draws.oneIn(3)) {
                does();
            } else {
                asks();
            }
        }
    }

    public static void main(String[] args) {
        int runs = args.length > 0 ? Integer.parseInt(args[0]) : 400;
        for (int run = 1; run <= runs && wrong == 0; run++) {
            new AgainstPlainTest(run).go();
        }
        System.out.println(wrong == 0 ? runs + " runs are alike" : wrong + " answers are not alike");
        if (wrong != 0) {
            System.exit(1);
        }
    }
}
