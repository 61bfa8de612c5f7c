/** Boundary cases of the parts IV and V: promises 15 and 41 to 56. */
final class EdgesOfBeliefs {
    private static final int[] FAR = {Integer.MIN_VALUE, Integer.MAX_VALUE, 1 << 30, -65536, 65536};

    private EdgesOfBeliefs() {
    }

    // ---- HEARD ----

    private static void heard() {
        Edge.of("HEARD (8 at most; told: a PERSON, whether it was rung for it): SETTLED days by which "
                + "all HEARD is so.");
        TollsForLate x = Edge.echo(8);
        Edge.due("sure(true), nothing heard", x.sure(true), 0);
        for (int p = 0; p < 8; p++) {
            Edge.due("heard", x.heard(p, p % 2 == 0), p + 1);
            Edge.due("sure(true)", x.sure(true), 0x55 & (2 << p) - 1);
            Edge.due("sure(false)", x.sure(false), 0xaa & (2 << p) - 1);
        }
        Edge.due("the ninth", x.heard(0, true), -2);
        Edge.due("sure(true)", x.sure(true), 0x55);
        TollsForLate y = Edge.echo(1);
        for (int i = 1; i <= 7; i++) {
            y.heard(0, true);
        }
        Edge.due("sure(true), seven alike", y.sure(true), 1);
        Edge.due("the eighth", y.heard(0, false), 8);
        Edge.due("sure(true), the eighth says no", y.sure(true), -1);
        Edge.of(41, "HEARD: how many there are (person NONE: none any more).");
        Edge.due("heard(-1, true) of none", Edge.three().heard(-1, true), 0);
        Edge.due("heard(-1, true) of nobody", new TollsForLate().heard(-1, true), 0);
        TollsForLate full = Edge.full();
        Edge.due("heard(-1, false) of eight", full.heard(-1, false), 0);
        Edge.due("about(4)", full.about(4), 0);
        Edge.due("about(5)", full.about(5), 8);
        Edge.due("heard(7, false)", full.heard(7, false), 1);
        Edge.of(41, "-2 for others, or if there are 8.");
        Edge.refused("the ninth", Edge::full, t -> t.heard(0, true), -2);
        Edge.refused("heard(8, true)", Edge::full, t -> t.heard(8, true), -2);
        Edge.refused("heard(3, true) of three", Edge::busy, t -> t.heard(3, true), -2);
        Edge.refused("heard(-2, true)", Edge::busy, t -> t.heard(-2, true), -2);
        Edge.refused("heard(0, true) of nobody", TollsForLate::new, t -> t.heard(0, true), -2);
        for (int far : FAR) {
            Edge.refused("heard(" + far + ", true)", Edge::busy, t -> t.heard(far, true), -2);
        }
    }

    private static void likely(TollsForLate x, int person, int upper, int lower) {
        Edge.due("believes(" + person + ", false)", x.believes(person, false), upper);
        Edge.due("believes(" + person + ", true)", x.believes(person, true), lower);
    }

    private static void believes() {
        Edge.of("BELIEVES: how likely a PERSON is LATE, each of these days being as likely as each, "
                + "in lowest terms.");
        int[][] of12 = {{1, 2}, {1, 2}, {1, 3}, {1, 3}};
        int[][] of13 = {{6, 13}, {6, 13}, {5, 13}, {5, 13}};
        int[][] of1 = {{0, 1}, {0, 1}, {0, 1}, {0, 1}};
        for (int p = 0; p < 4; p++) {
            likely(Edge.firstSettled(12), p, of12[p][0], of12[p][1]);
            likely(Edge.firstSettled(13), p, of13[p][0], of13[p][1]);
            likely(Edge.firstSettled(1), p, of1[p][0], of1[p][1]);
        }
        Edge.of(42, "BELIEVES: the upper (low false), the lower one (low true).");
        TollsForLate x = Edge.echo(8);
        likely(x, 0, 1, 2);
        likely(x, 7, 1, 2);
        x.heard(7, true);
        likely(x, 7, 1, 1);
        likely(x, 0, 1, 2);
        x.heard(0, false);
        likely(x, 0, 0, 1);
        Edge.of(42, "NONE: no SETTLED day is so, and for others.");
        x.heard(0, true);
        likely(x, 0, -1, -1);
        likely(Edge.mirror(8), 7, -1, -1);
        EdgesOfQuestions.person(42, "NONE: no SETTLED day is so, and for others.", "believes",
                (t, p) -> t.believes(p, true), -1);
        EdgesOfQuestions.person(42, "NONE: no SETTLED day is so, and for others.", "believes",
                (t, p) -> t.believes(p, false), -1);
        Edge.due("believes(-1, true)", Edge.echo(3).believes(-1, true), -1);
    }

    private static void sure() {
        Edge.of("SURE: who is LATE in all of them, in none (of those told).");
        TollsForLate x = Edge.three();
        Edge.due("sure(true)", x.sure(true), 4);
        Edge.due("sure(false), of three", x.sure(false), 3);
        Edge.due("sure(false), of eight", Edge.ruled(8, "takes 0;").sure(false), 255);
        Edge.due("sure(true), of eight", Edge.ruled(8, "takes 1;").sure(true), 255);
        Edge.of(43, "SURE: who is LATE in all of these (late true), in none (late false; bits).");
        Edge.due("sure(true) of nobody", new TollsForLate().sure(true), 0);
        Edge.due("sure(false) of nobody", new TollsForLate().sure(false), 0);
        Edge.due("sure(true), all is open", Edge.echo(8).sure(true), 0);
        Edge.due("sure(false), all is open", Edge.echo(8).sure(false), 0);
        Edge.of(43, "NONE: no SETTLED day is so.");
        Edge.due("sure(true) of none settled", Edge.mirror(8).sure(true), -1);
        Edge.due("sure(false) of none settled", Edge.mirror(8).sure(false), -1);
        x.heard(2, false);
        Edge.due("sure(true), none is so", x.sure(true), -1);
        Edge.due("sure(false), none is so", x.sure(false), -1);
        x.heard(-1, true);
        Edge.due("sure(true), nothing heard any more", x.sure(true), 4);
    }

    private static void tells() {
        Edge.of("WHOM TO ASK: of these days (12 at most) to find out which it is, one asks PERSONS, one "
                + "behind the other, whether they are LATE: how many must be asked at most, if one asks as "
                + "well as can be; the PERSON to ask first for that; of like ones the lowest; none "
                + "(0 or 1 days: 0 must be asked).");
        int[] asked = {0, 0, 1, 2, 2, 3, 3, 3, 3, 4, 4, 4, 4};
        // The first days are 0, 1, 2, ..: to ask of the lowest bit first is as good as any other one,
        // where it leaves no more on either side than can be told apart by what is left.
        int[] first = {-1, -1, 0, 0, 0, 0, 0, 0, 0, 0, 0, 0, 0};
        for (int days = 0; days <= 12; days++) {
            TollsForLate x = Edge.firstSettled(days);
            Edge.due("settled(-1)", x.settled(-1), days);
            Edge.due("tells(1) of " + days, x.tells(1), asked[days]);
            Edge.due("tells(0) of " + days, x.tells(0), first[days]);
        }
        // At most one of eight is late: all must be asked, and the lowest first.
        TollsForLate one = Edge.ruled(8, "takes if rings 0+rings 1+rings 2+rings 3+rings 4+rings 5"
                + "+rings 6+rings 7<2 then rings who else 0 end;");
        Edge.due("tells(1) of nine", one.tells(1), 8);
        Edge.due("tells(0) of nine", one.tells(0), 0);
        // 0 is late always, and the days are those of 1 and 2: to ask 0 is for nothing.
        TollsForLate known = Edge.ruled(3, "takes if who=0 then 1 else rings who end;");
        Edge.due("tells(0) of four", known.tells(0), 1);
        Edge.due("tells(1) of four", known.tells(1), 2);
        // Of 1 and 2 the lowest of both tells.
        TollsForLate either = Edge.ruled(2, "takes 1-rings(1-who);");
        Edge.due("tells(0) of 1 and 2", either.tells(0), 0);
        Edge.due("tells(1) of 1 and 2", either.tells(1), 1);
        whomBehindOthers();
        Edge.of(44, "WHOM TO ASK: 0 the PERSON, 1 how many must be asked at most.");
        TollsForLate last = Edge.ruled(8, "takes if who=7 then rings 7 else 0 end;");
        Edge.due("tells(0) of two", last.tells(0), 7);
        Edge.due("tells(1) of two", last.tells(1), 1);
        Edge.due("tells(1) of nobody", new TollsForLate().tells(1), 0);
        Edge.of(44, "NONE: none (what 0), more than 12 days, and for others.");
        Edge.due("tells(0) of nobody", new TollsForLate().tells(0), -1);
        Edge.due("tells(0) of one", Edge.three().tells(0), -1);
        Edge.due("tells(0) of none", Edge.mirror(3).tells(0), -1);
        TollsForLate more = Edge.firstSettled(13);
        Edge.due("tells(0) of 13", more.tells(0), -1);
        Edge.due("tells(1) of 13", more.tells(1), -1);
        more.heard(3, true);
        Edge.due("tells(1) of 5", more.tells(1), 3);
        more.heard(-1, true);
        Edge.due("tells(1) of 13", more.tells(1), -1);
        Edge.due("tells(1) of 256", Edge.echo(8).tells(1), -1);
        Edge.due("tells(0) of 256", Edge.echo(8).tells(0), -1);
        for (int what : new int[] {-1, 2, Integer.MIN_VALUE, Integer.MAX_VALUE}) {
            Edge.due("tells(" + what + ")", Edge.echo(2).tells(what), -1);
            Edge.refused("tells(" + what + ")", Edge::busy, t -> t.tells(what), -1);
        }
    }

    /** Which days there were, when one asked before, does not count. */
    private static void whomBehindOthers() {
        TollsForLate x = Edge.echo(4);
        for (int last = 3; last >= 0; last--) {
            x.heard(-1, true);
            for (int p = 0; p < 4; p++) {
                if (p != last) {
                    x.heard(p, p % 2 == 0);
                }
            }
            Edge.due("tells(0) but for " + last, x.tells(0), last);
            Edge.due("tells(1) but for " + last, x.tells(1), 1);
        }
        x.heard(0, true);
        Edge.due("tells(1), all heard", x.tells(1), 0);
        Edge.due("tells(0), all heard", x.tells(0), -1);
    }

    // ---- ASLEEP, SLACK, LEAST, MOVES ----

    private static void asleep() {
        Edge.of("ASLEEP: the fewest PERSONS (bits, those that are IN BED already are so; they count, too), "
                + "IN BED by whom nobody WOULD BE LATE by no RINGS; of like ones the lowest set "
                + "(all of them is one).");
        TollsForLate x = Edge.ruled(8, "takes 1;");
        Edge.due("asleep(false), all", x.asleep(false), 255);
        Edge.due("asleep(true), all", x.asleep(true), 8);
        // All run; with so many others running one is late: the lowest ones stay in bed.
        for (int others = 1; others < 8; others++) {
            TollsForLate y = Edge.ruled(8, "runs 1;takes jam/" + others + ";");
            Edge.due("asleep(true) by " + others, y.asleep(true), 8 - others);
            Edge.due("asleep(false) by " + others, y.asleep(false), (1 << 8 - others) - 1);
            y.bed(7);
            Edge.due("asleep(true), one already", y.asleep(true), 8 - others);
            Edge.due("asleep(false), one already", y.asleep(false), (1 << 7 - others) - 1 | 128);
        }
        TollsForLate none = Edge.echo(8);
        none.ring(255);
        Edge.due("asleep(false), by no RINGS", none.asleep(false), 0);
        none.bed(3);
        Edge.due("asleep(false), one already", none.asleep(false), 8);
        Edge.due("asleep(true), which counts", none.asleep(true), 1);
        Edge.of(45, "ASLEEP: who (many false; bits), how many (many true).");
        Edge.due("asleep(false) of nobody", new TollsForLate().asleep(false), 0);
        Edge.due("asleep(true) of nobody", new TollsForLate().asleep(true), 0);
        TollsForLate all = Edge.people(8);
        for (int p = 0; p < 8; p++) {
            all.bed(p);
        }
        Edge.due("asleep(false), all already", all.asleep(false), 255);
        Edge.due("asleep(true), all already", all.asleep(true), 8);
        Edge.due("asleep(false) of one", Edge.people(1).asleep(false), 1);
    }

    private static void slackAndLeast() {
        int[] says = {0, 1, 98, 99, 100, 998, 999, 1000, 9999};
        for (int say : says) {
            TollsForLate x = Edge.ruled(8, "takes " + say + ";");
            int takes = Math.min(say, 999);
            Edge.of("SLACK of a PERSON: DUE less what takes says by RINGS as now.");
            Edge.due("slack(0) of DUE 0", x.slack(0), -takes);
            x.due(7, 99);
            Edge.due("slack(7) of DUE 99", x.slack(7), 99 - takes);
            Edge.of("LEAST DUE: what takes says then (99 at most).");
            Edge.due("least(7) by " + say, x.least(7), Math.min(say, 99));
            Edge.due("least(0) by " + say, x.least(0), Math.min(say, 99));
        }
        TollsForLate y = Edge.echo(8);
        y.ring(128);
        Edge.of(46, "SLACK.");
        Edge.due("slack(7)", y.slack(7), -1);
        Edge.due("slack(6)", y.slack(6), 0);
        Edge.of(47, "LEAST DUE.");
        Edge.due("least(7)", y.least(7), 1);
        Edge.due("least(6)", y.least(6), 0);
        Edge.due("least(0) below 0", Edge.ruled(1, "takes -1;").least(0), 0);
        EdgesOfQuestions.person(46, "-1000 for others.", "slack", TollsForLate::slack, -1000);
        Edge.due("slack(-1)", y.slack(-1), -1000);
        EdgesOfQuestions.person(47, "NONE for others.", "least", TollsForLate::least, -1);
        Edge.due("least(-1)", y.least(-1), -1);
    }

    private static void moves() {
        Edge.of("MOVES: whether by RINGS as now without a PERSON (p), and with it, another one (q) is LATE "
                + "the one time and not the other (1, 0; p and q may be one).");
        TollsForLate x = Edge.echo(8);
        TollsForLate y = Edge.slide(8);
        for (int rings : new int[] {0, 255}) {
            x.ring(rings);
            y.ring(rings);
            Edge.due("moves(7, 7)", x.moves(7, 7), 1);
            Edge.due("moves(0, 0)", x.moves(0, 0), 1);
            Edge.due("moves(0, 7)", x.moves(0, 7), 0);
            Edge.due("moves(7, 6), the one ahead", y.moves(7, 6), 1);
            Edge.due("moves(7, 7), none ahead", y.moves(7, 7), 0);
        }
        x.bed(7);
        Edge.due("moves(7, 7) in bed", x.moves(7, 7), 0);
        Edge.due("is(1)", x.is(1), 255);
        Edge.of(48, "MOVES.");
        Edge.due("moves(0, 0) of one", Edge.echo(1).moves(0, 0), 1);
        Edge.due("moves(0, 0) of one late always", Edge.ruled(1, "takes 1;").moves(0, 0), 0);
        EdgesOfQuestions.person(48, "NONE for others.", "moves by", (t, p) -> t.moves(p, 0), -1);
        EdgesOfQuestions.person(48, "NONE for others.", "moves of", (t, q) -> t.moves(0, q), -1);
        Edge.due("moves(-1, 0)", x.moves(-1, 0), -1);
        Edge.due("moves(0, -1)", x.moves(0, -1), -1);
    }

    // ---- SAID ----

    private static void said() {
        Edge.of("WHOSE LAW (told: SAID, 8 at most: a PERSON, takes 0 .. 999 by RINGS as now): TEXTS (bits) "
                + "by whose takes (and runs) all are so.");
        TollsForLate x = Edge.people(8);
        Edge.write(x, "takes 0;");
        Edge.write(x, "takes 9999;");
        Edge.write(x, "runs 1;takes 999*fast;");
        Edge.write(x, "takes who*rings 7;");
        Edge.due("whose(), nothing said", x.whose(), 15);
        Edge.due("said(0, 0)", x.said(0, 0), 1);
        Edge.due("whose()", x.whose(), 9);
        Edge.due("said(-1, 0)", x.said(-1, 0), 0);
        Edge.due("said(7, 999)", x.said(7, 999), 1);
        Edge.due("whose()", x.whose(), 6);
        x.said(-1, 0);
        x.ring(128);
        for (int p = 0; p < 8; p++) {
            Edge.due("said", x.said(p, p), p + 1);
            Edge.due("whose()", x.whose(), p == 0 ? 9 : 8);
        }
        Edge.due("the ninth", x.said(0, 5), -2);
        Edge.due("whose()", x.whose(), 8);
        x.ring(0);
        Edge.due("whose(), by RINGS as now", x.whose(), 0);
        TollsForLate last = Edge.ruled(1, "takes 5;");
        for (int i = 0; i < 7; i++) {
            last.said(0, 5);
        }
        Edge.due("whose(), seven alike", last.whose(), 1);
        Edge.due("the eighth", last.said(0, 6), 8);
        Edge.due("whose(), the eighth unlike", last.whose(), 0);
        Edge.of(49, "SAID: how many there are (person NONE: none any more).");
        Edge.due("said(-1, 0) of none", Edge.three().said(-1, 0), 0);
        Edge.due("said(-1, 0) of nobody", new TollsForLate().said(-1, 0), 0);
        TollsForLate full = Edge.full();
        Edge.due("said(-1, 0) of eight", full.said(-1, 0), 0);
        Edge.due("about(5)", full.about(5), 0);
        Edge.due("about(4)", full.about(4), 8);
        Edge.due("said(7, 999)", full.said(7, 999), 1);
        Edge.of(49, "-2 for others, or if there are 8.");
        Edge.refused("the ninth", Edge::full, t -> t.said(0, 0), -2);
        Edge.refused("said(8, 0)", Edge::full, t -> t.said(8, 0), -2);
        Edge.refused("said(3, 0) of three", Edge::busy, t -> t.said(3, 0), -2);
        Edge.refused("said(-2, 0)", Edge::busy, t -> t.said(-2, 0), -2);
        Edge.refused("said(0, -1)", Edge::busy, t -> t.said(0, -1), -2);
        Edge.refused("said(0, 1000)", Edge::busy, t -> t.said(0, 1000), -2);
        Edge.refused("said(0, 0) of nobody", TollsForLate::new, t -> t.said(0, 0), -2);
        for (int far : FAR) {
            Edge.refused("said(" + far + ", 0)", Edge::busy, t -> t.said(far, 0), -2);
            Edge.refused("said(0, " + far + ")", Edge::busy, t -> t.said(0, far), -2);
        }
        Edge.of(50, "WHOSE LAW (bits).");
        TollsForLate now = Edge.ruled(1, "takes weather;");
        now.said(0, 0);
        now.weathers(0);
        Edge.due("whose() behind weathers", now.whose(), 1);
        now.asleep(false);
        Edge.due("whose() behind asleep", now.whose(), 1);
        now.foretold(1, 0);
        Edge.due("whose() behind foretold", now.whose(), 1);
        Edge.due("whose() of no TEXTS", Edge.three().whose(), 0);
        Edge.due("whose() of nobody", new TollsForLate().whose(), 0);
        TollsForLate four = new TollsForLate();
        for (int i = 0; i < 4; i++) {
            Edge.write(four, "");
            Edge.due("whose() of " + (i + 1), four.whose(), (2 << i) - 1);
        }
    }

    // ---- LATEST, CROWDED, DEAF, BY THE BOOK ----

    private static void latest() {
        Edge.of("LATEST: of most often LATE; of like ones the lowest; none (0 times all, or none is told).");
        TollsForLate x = Edge.echo(8);
        Edge.due("latest(), 0 times all", x.latest(), -1);
        x.ring(192);
        x.day(1);
        Edge.due("latest(), 6 and 7 alike", x.latest(), 6);
        x.ring(128);
        x.day(1);
        Edge.due("latest()", x.latest(), 7);
        x.ring(65);
        x.day(1);
        Edge.due("latest(), 6 and 7 alike", x.latest(), 6);
        Edge.of(51, "LATEST.");
        TollsForLate y = Edge.people(1);
        y.day(1);
        Edge.due("latest() of one", y.latest(), 0);
        Edge.of(51, "NONE: none.");
        Edge.due("latest() of nobody", new TollsForLate().latest(), -1);
        y.undo();
        Edge.due("latest(), taken back", y.latest(), -1);
        TollsForLate z = Edge.ruled(8, "takes 0;");
        z.day(60);
        Edge.due("latest(), never late", z.latest(), -1);
    }

    private static void crowded() {
        Edge.of("CROWDED: the ROAD on which most WOULD RUN by RINGS as now; of like ones the lowest.");
        TollsForLate x = new TollsForLate();
        for (int p = 0; p < 8; p++) {
            x.person(3 - p % 4, 1, 1, 1);
        }
        Edge.due("crowded(), nobody runs", x.crowded(), 0);
        x.ring(1);
        Edge.due("crowded(), two on each", x.crowded(), 0);
        x.bed(3);
        Edge.due("crowded(), one on ROAD 0", x.crowded(), 1);
        x.bed(2);
        Edge.due("crowded(), one on ROAD 1", x.crowded(), 2);
        x.bed(1);
        Edge.due("crowded(), two on ROAD 3 alone", x.crowded(), 3);
        Edge.of(52, "CROWDED.");
        Edge.due("crowded() of nobody", new TollsForLate().crowded(), 0);
        TollsForLate y = new TollsForLate();
        y.person(3, 1, 1, 1);
        Edge.due("crowded(), it walks", y.crowded(), 0);
        y.ring(1);
        Edge.due("crowded(), it runs", y.crowded(), 3);
    }

    private static void deaf() {
        Edge.of("DEAF: PERSONS (bits) that HEAR rings for none of those told.");
        TollsForLate x = Edge.people(7);
        for (int q = 0; q < 7; q++) {
            x.hears(0, q, false);
            x.hears(6, q, false);
            x.hears(7, q, false);
            Edge.due("deaf()", x.deaf(), q < 6 ? 0 : 65);
        }
        x.person(0, 1, 1, 1);
        Edge.due("deaf(), which hear the last", x.deaf(), 0);
        x.hears(7, 7, false);
        Edge.due("deaf()", x.deaf(), 128);
        // Those that hear one of those told alone, the first or the last, are not deaf.
        TollsForLate first = Edge.people(2);
        first.hears(0, 1, false);
        first.hears(1, 0, false);
        Edge.due("deaf(), each hears itself alone", first.deaf(), 0);
        Edge.of(53, "DEAF (bits).");
        Edge.due("deaf() of nobody", new TollsForLate().deaf(), 0);
        Edge.due("deaf() at first", Edge.people(8).deaf(), 0);
        TollsForLate y = Edge.people(8);
        for (int p = 0; p < 8; p++) {
            for (int q = 0; q < 8; q++) {
                y.hears(p, q, false);
            }
        }
        Edge.due("deaf() of all", y.deaf(), 255);
    }

    private static void ledger() {
        Edge.of("BY THE BOOK: how often a PERSON was LATE (NONE: all together).");
        TollsForLate x = Edge.three();
        x.day(30);
        Edge.due("ledger(0), of 30 days", x.ledger(0), 1);
        Edge.due("ledger(2), of 30 days", x.ledger(2), 30);
        Edge.due("ledger(-1), of 30 days", x.ledger(-1), 31);
        x.day(1);
        Edge.due("ledger(0), of the latest 30", x.ledger(0), 0);
        Edge.due("of(0, 5)", x.of(0, 5), 1);
        Edge.due("ledger(2), of the latest 30", x.ledger(2), 30);
        Edge.due("of(2, 5)", x.of(2, 5), 31);
        Edge.due("ledger(-1), of the latest 30", x.ledger(-1), 30);
        Edge.of(54, "BY THE BOOK.");
        Edge.due("ledger(-1) of nobody", new TollsForLate().ledger(-1), 0);
        Edge.due("ledger(2) of no days", Edge.three().ledger(2), 0);
        TollsForLate all = Edge.ruled(8, "takes 1;");
        all.day(60);
        Edge.due("ledger(-1) of all", all.ledger(-1), 240);
        Edge.due("ledger(7) of all", all.ledger(7), 30);
        Edge.of(54, "-2 for others.");
        for (int other : new int[] {3, -2, 8, 32, 34, Integer.MIN_VALUE, Integer.MAX_VALUE}) {
            Edge.refused("ledger(" + other + ")", Edge::busy, t -> t.ledger(other), -2);
        }
        Edge.refused("ledger(8) of eight", Edge::full, t -> t.ledger(8), -2);
        Edge.refused("ledger(0) of nobody", TollsForLate::new, t -> t.ledger(0), -2);
    }

    // ---- YEARS ----

    /** The draws of YEARS, done by hand on a twin; its WEATHER and X alone are its own. */
    private static void drawnByHand(int seed, int n, Edge.Recipe recipe) {
        TollsForLate x = recipe.town();
        TollsForLate y = recipe.town();
        int people = y.about(0);
        int steps = x.about(3);
        int drawn = seed * 2 + 229;
        int weather = y.is(2);
        for (int i = 0; i < n; i++) {
            int now = drawn;
            drawn = EdgesOfTerms.anew(drawn);
            if (now % 6 >= 4) {
                if (y.day(1) >= 0) {
                    weather = drawn % 10;
                    drawn = EdgesOfTerms.anew(drawn);
                }
            } else if (people > 0) {
                byHand(y, now % 6, now % people, now / 6 % 100);
            }
        }
        String call = "years(" + seed + ", " + n + ")";
        Edge.due(call, x.years(seed, n), y.is(0));
        Edge.due("is(1) behind " + call, x.is(1), y.is(1));
        Edge.due("is(2) behind " + call, x.is(2), weather);
        Edge.due("is(3) behind " + call, x.is(3), drawn);
        Edge.due("book(-1, 0) behind " + call, x.book(-1, 0), y.book(-1, 0));
        Edge.due("about(3) behind " + call, x.about(3), Math.min(30, steps + 1));
        for (int p = 0; p < people; p++) {
            for (int what = 3; what < 6; what++) {
                Edge.due("of(" + p + ", " + what + ") behind " + call, x.of(p, what), y.of(p, what));
            }
        }
    }

    private static void byHand(TollsForLate y, int what, int person, int due) {
        switch (what) {
            case 0:
                y.ring(1 << person);
                break;
            case 1:
                y.due(person, due);
                break;
            case 2:
                y.bed(person);
                break;
            default:
                y.up(person);
                break;
        }
    }

    private static TollsForLate onDay(int day) {
        TollsForLate x = Edge.three();
        Edge.toDay(x, day);
        return x;
    }

    private static void years() {
        Edge.of("YEARS by a SEED: X is SEED (0 .. 9999) * 2 + 229; n times (1 .. 40): x is X, X anew (as in a "
                + "DAY), of the PERSON x mod how many there are: x mod 6: 0 RINGS are for it alone; 1 PUT OFF "
                + "to x / 6 mod 100; 2 IN BED; 3 UP (each if it can be); 4, 5 a DAY (if it can pass).");
        for (int seed : new int[] {0, 1, 2, 5, 4999, 9998, 9999}) {
            for (int n : new int[] {1, 2, 39, 40}) {
                for (int people = 1; people <= 8; people++) {
                    int told = people;
                    drawnByHand(seed, n, () -> Edge.people(told));
                }
                drawnByHand(seed, n, Edge::three);
            }
            for (int day = 9997; day <= 9999; day++) {
                int now = day;
                drawnByHand(seed, 40, () -> onDay(now));
            }
        }
        Edge.of("Without PERSONS all but DAYS are nothing.");
        for (int seed : new int[] {0, 5, 9999}) {
            for (int n : new int[] {1, 40}) {
                drawnByHand(seed, n, TollsForLate::new);
            }
        }
        TollsForLate nobody = new TollsForLate();
        nobody.years(0, 5);
        Edge.due("is(1) of nobody", nobody.is(1), 0);
        nobody.person(0, 1, 1, 9);
        Edge.due("of(0, 3), as told", nobody.of(0, 3), 9);
        Edge.due("of(0, 4), as told", nobody.of(0, 4), 0);
        Edge.of("It is one STEP: DAY.");
        TollsForLate x = Edge.three();
        x.years(9999, 40);
        Edge.due("about(3)", x.about(3), 1);
        Edge.due("undo()", x.undo(), 0);
        Edge.alike("as ahead of it", x, Edge.three());
        Edge.due("about(3) of thirty and one", full30(), 30);
        wrongYears();
    }

    private static int full30() {
        TollsForLate x = Edge.three();
        x.day(30);
        x.years(0, 40);
        return x.about(3);
    }

    private static void wrongYears() {
        Edge.of(15, "YEARS: DAY.");
        Edge.due("years(0, 1), no DAY", Edge.three().years(0, 1), 0);
        Edge.due("years(5, 1), a DAY", Edge.three().years(5, 1), 1);
        Edge.due("years(9999, 1)", new TollsForLate().years(9999, 1), (9999 * 2 + 229) % 6 >= 4 ? 1 : 0);
        Edge.due("years(5, 1) at 9998", onDay(9998).years(5, 1), 9999);
        Edge.due("years(5, 1) at 9999", onDay(9999).years(5, 1), 9999);
        Edge.of(15, "NONE for others.");
        for (int seed : new int[] {-1, 10000, Integer.MIN_VALUE, Integer.MAX_VALUE}) {
            Edge.refused("years(" + seed + ", 1)", Edge::busy, t -> t.years(seed, 1), -1);
        }
        for (int n : new int[] {0, -1, 41, Integer.MIN_VALUE, Integer.MAX_VALUE}) {
            Edge.refused("years(0, " + n + ")", Edge::busy, t -> t.years(0, n), -1);
        }
        Edge.refused("years(10000, 41)", Edge::full, t -> t.years(10000, 41), -1);
    }

    // ---- THE IMAGE ----

    private static void image() {
        Edge.of("AN IMAGE: all as it is, but the tape and the latest FAULT.");
        Edge.Recipe[] towns = {TollsForLate::new, Edge::three, Edge::busy, Edge::full, Edge::lastDay};
        for (Edge.Recipe town : towns) {
            TollsForLate x = town.town();
            TollsForLate y = town.town();
            Edge.due("image()", x.image(), y.is(0));
            y.image();
            stir(x);
            Edge.write(y, "up 9;");
            Edge.load(y, "up 1");
            Edge.due("back()", x.back(), y.is(0));
            Edge.of("BACK: all is so again.");
            Edge.alike("behind back()", x, y);
        }
        wordsAndRoads();
        Edge.of(55, "THE IMAGE is as all is now: DAY.");
        Edge.due("image() on DAY 0", new TollsForLate().image(), 0);
        TollsForLate last = onDay(9999);
        Edge.due("image() on DAY 9999", last.image(), 9999);
        Edge.due("about(3)", last.about(3), 30);
        last.undo();
        Edge.due("back()", last.back(), 9999);
        Edge.due("about(3)", last.about(3), 30);
        Edge.due("undo()", last.undo(), 29);
        Edge.due("is(0)", last.is(0), 9998);
        Edge.due("image(), anew", last.image(), 9998);
        last.undo();
        Edge.due("back()", last.back(), 9998);
        Edge.of(56, "BACK to THE IMAGE (it stays): DAY.");
        Edge.due("back() once more", last.back(), 9998);
        TollsForLate x = Edge.busy();
        for (int i = 0; i < 3; i++) {
            stir(x);
            Edge.due("back()", x.back(), 3);
        }
        TollsForLate y = Edge.busy();
        Edge.write(y, "up 9;");
        Edge.load(y, "up 1");
        y.back();
        Edge.alike("behind back() for the third time", x, y);
        Edge.due("back() of a new one", new TollsForLate().back(), 0);
    }

    /** Eight HEARD and SAID, and who is on which ROAD, are as they were. */
    private static void wordsAndRoads() {
        TollsForLate x = Edge.echo(8);
        x.ring(0x55);
        for (int p = 0; p < 8; p++) {
            x.heard(p, p % 2 == 0);
            x.said(p, 1 - p % 2);
        }
        x.image();
        x.heard(-1, true);
        x.said(-1, 0);
        for (int p = 7; p >= 0; p--) {
            x.heard(p, p % 2 == 1);
            x.said(p, p);
        }
        Edge.due("sure(true)", x.sure(true), 0xaa);
        Edge.due("whose()", x.whose(), 0);
        x.back();
        Edge.due("sure(true), as it was", x.sure(true), 0x55);
        Edge.due("sure(false), as it was", x.sure(false), 0xaa);
        Edge.due("whose(), as it was", x.whose(), 1);
        TollsForLate y = new TollsForLate();
        y.person(3, 50, 20, 0);
        y.image();
        y.person(3, 50, 20, 0);
        y.person(3, 50, 20, 0);
        y.ring(1);
        Edge.due("of(0, 7) by a jam of two", y.of(0, 7), 21);
        y.back();
        y.person(0, 50, 20, 0);
        y.person(1, 50, 20, 0);
        y.ring(1);
        Edge.due("of(0, 7) alone on its ROAD", y.of(0, 7), 20);
        Edge.due("crowded()", y.crowded(), 0);
    }

    /** All is made otherwise, as far as it can be; the tape and the latest FAULT are known then. */
    private static void stir(TollsForLate x) {
        Edge.write(x, "takes 77;");
        x.by(x.about(1) - 1);
        x.person(3, 3, 3, 3);
        x.hears(0, 0, false);
        x.hears(7, 1, false);
        x.due(0, 55);
        x.bed(0);
        x.day(31);
        x.years(17, 40);
        x.ring(1);
        x.heard(-1, true);
        x.heard(0, false);
        x.said(-1, 0);
        x.said(0, 1);
        x.undo();
        Edge.write(x, "up 9;");
        Edge.load(x, "up 1");
    }

    private static void constants() {
        Edge.of("The constants: NONE = -1: None.");
        Edge.due("NONE", TollsForLate.NONE, -1);
    }

    static void all() {
        heard();
        believes();
        sure();
        tells();
        asleep();
        slackAndLeast();
        moves();
        said();
        latest();
        crowded();
        deaf();
        ledger();
        years();
        image();
        constants();
    }
}
