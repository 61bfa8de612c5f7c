/** Boundary cases of part III: promises 20 to 40. */
final class EdgesOfQuestions {
    private static final int[] FAR = {Integer.MIN_VALUE, Integer.MAX_VALUE, 1 << 30, -65536, 65536};

    /** A question that is asked of RINGS or of a PERSON. */
    interface Question {
        int of(TollsForLate x, int rings);
    }

    private EdgesOfQuestions() {
    }

    /** RINGS are those of PERSONS told: the first bits beyond, below 0 and far off are others. */
    private static void rings(int promise, String sentence, String name, Question question) {
        Edge.of(promise, sentence);
        int[] told = {0, 1, 3, 7, 8};
        for (int n : told) {
            TollsForLate x = Edge.echo(n);
            Edge.due(name + "(0) of " + n, question.of(x, 0) >= 0, true);
            Edge.due(name + " of the most of " + n, question.of(x, (1 << n) - 1) >= 0, true);
            Edge.due(name + " beyond " + n, question.of(x, 1 << n), -1);
            Edge.due(name + "(-1) of " + n, question.of(x, -1), -1);
            for (int far : FAR) {
                Edge.due(name + "(" + far + ") of " + n, question.of(x, far), -1);
            }
        }
        Edge.refused(name + "(8) of three", Edge::busy, t -> question.of(t, 8), -1);
        Edge.refused(name + "(-1) of three", Edge::busy, t -> question.of(t, -1), -1);
        Edge.refused(name + "(256) of eight", Edge::full, t -> question.of(t, 256), -1);
    }

    /** A question that is asked of a PERSON, and what it answers for others. */
    static void person(int promise, String sentence, String name, Question question, int other) {
        Edge.of(promise, sentence);
        for (int n : new int[] {0, 1, 3, 7, 8}) {
            TollsForLate x = Edge.echo(n);
            Edge.due(name + " of the last of " + n, question.of(x, n - 1) == other, n == 0);
            Edge.due(name + " beyond " + n, question.of(x, n), other);
            Edge.due(name + " beyond -1", question.of(x, -2), other);
            for (int far : FAR) {
                Edge.due(name + "(" + far + ") of " + n, question.of(x, far), other);
            }
        }
        Edge.refused(name + "(3) of three", Edge::busy, t -> question.of(t, 3), other);
        Edge.refused(name + "(8) of eight", Edge::full, t -> question.of(t, 8), other);
        Edge.refused(name + "(0) of nobody", TollsForLate::new, t -> question.of(t, 0), other);
    }

    // ---- nothing is changed ----

    private static void askAll(TollsForLate x) {
        int most = (1 << x.about(0)) - 1;
        for (int what = 0; what < 3; what++) {
            x.foretold(60, what);
        }
        for (int r = 0; r <= most; r += Math.max(1, most)) {
            x.late(r);
            x.runners(r);
            x.tail(r);
            x.round(r);
            x.basin(r);
            x.after(r, 60);
            x.times(r, most);
            x.apart(r, most);
            x.helped(r, true);
            x.early(r);
        }
        x.settled(-1);
        x.settled(0);
        x.fewest(true);
        x.rounds();
        x.never();
        x.always();
        x.calm(false);
        x.needless();
        for (int p = 0; p < x.about(0); p++) {
            x.weathers(p);
            x.lateness(p);
            x.race(p + 1, true);
            x.believes(p, true);
            x.slack(p);
            x.least(p);
            x.moves(p, 0);
            x.ledger(p);
        }
        x.sure(true);
        x.tells(0);
        x.tells(1);
        x.asleep(false);
        x.whose();
        x.latest();
        x.crowded();
        x.deaf();
        x.ledger(-1);
    }

    private static void changesNothing() {
        Edge.of("All that follows changes nothing, and is by DAY, WEATHER, who is IN BED as now.");
        Edge.Recipe[] towns = {TollsForLate::new, Edge::busy, Edge::full, Edge::lastDay};
        for (Edge.Recipe town : towns) {
            TollsForLate x = town.town();
            askAll(x);
            Edge.alike("behind all questions", x, town.town());
        }
        TollsForLate y = Edge.ruled(1, "takes if day=1 and weather=9 then 1 else 0 end;");
        Edge.due("late(0) on DAY 0", y.late(0), 0);
        y.day(1);
        Edge.due("late(0) on DAY 1, WEATHER 9", y.late(0), 1);
        y.bed(0);
        Edge.due("late(0) in bed", y.late(0), 0);
        y.up(0);
        y.day(1);
        Edge.due("late(0) on DAY 2", y.late(0), 0);
        askedAgain();
        inAnyOrder();
    }

    /** What is asked first has no say in what is answered then, whatever is known already. */
    private static void inAnyOrder() {
        for (int first = 0; first < EACH.length; first++) {
            for (int then = 0; then < EACH.length; then++) {
                TollsForLate x = twoLaws();
                x.settled(-1);
                EACH[first].on(x);
                Edge.due("question " + then + " behind question " + first, EACH[then].on(x),
                        EACH[then].on(twoLaws()));
            }
        }
        TollsForLate y = twoLaws();
        y.up(3);
        Edge.due("settled(NONE)", y.settled(-1), 16);
        Edge.due("whose()", y.whose(), 1);
        Edge.due("always() behind whose()", y.always(), 16);
        y.ring(0);
        Edge.due("weathers(0)", y.weathers(0), 0);
        y.bed(2);
        Edge.due("settled(NONE)", y.settled(-1), 8);
        Edge.due("asleep()", y.asleep(false), 4);
        Edge.due("always() behind asleep()", y.always(), 8);
    }

    /** All RINGS of those that are up are settled; by the other law none are. */
    private static TollsForLate twoLaws() {
        TollsForLate x = Edge.echo(4);
        Edge.write(x, "runs 1-heard;takes 5-fast+weather*who;");
        x.ring(5);
        x.bed(3);
        x.heard(0, true);
        x.said(0, 1);
        return x;
    }

    private static final Edge.Call[] EACH = {
        x -> x.foretold(9, 0), x -> x.foretold(9, 1), x -> x.foretold(9, 2), x -> x.late(5),
        x -> x.runners(5), x -> x.settled(-1), x -> x.settled(3), x -> x.fewest(true), x -> x.tail(9),
        x -> x.round(9), x -> x.rounds(), x -> x.basin(1), x -> x.never(), x -> x.after(11, 3),
        x -> x.times(9, 1), x -> x.apart(9, 1), x -> x.always(), x -> x.calm(true), x -> x.calm(false),
        x -> x.helped(5, true), x -> x.early(0), x -> x.weathers(2), x -> x.needless(),
        x -> x.lateness(2), x -> x.race(3, false), x -> x.believes(1, true), x -> x.sure(true),
        x -> x.tells(0), x -> x.tells(1), x -> x.asleep(false), x -> x.slack(2), x -> x.least(2),
        x -> x.moves(2, 2), x -> x.whose(), x -> x.latest(), x -> x.crowded(), x -> x.deaf(),
        x -> x.ledger(-1), x -> x.of(2, 6), x -> x.of(2, 7), x -> x.of(3, 7)
    };

    /** What was answered before one tells or does something is not what is so behind it. */
    private static void askedAgain() {
        TollsForLate x = new TollsForLate();
        Edge.due("late(0)", x.late(0), 0);
        x.person(0, 5, 3, 4);
        Edge.due("late(0) behind person", x.late(0), 1);
        Edge.due("late(1)", x.late(1), 0);
        x.hears(0, 0, false);
        Edge.due("late(1) behind hears", x.late(1), 1);
        x.due(0, 5);
        Edge.due("late(0) behind due", x.late(0), 0);
        Edge.write(x, "takes 9-weather;due 9 of 0;");
        Edge.due("late(0) behind text", x.late(0), 0);
        x.by(0);
        Edge.due("late(0) behind by", x.late(0), 1);
        x.day(1);
        Edge.due("late(0) behind day, WEATHER 9", x.late(0), 0);
        x.undo();
        Edge.due("late(0) behind undo", x.late(0), 1);
        x.played(0);
        Edge.due("late(0) behind played", x.late(0), 0);
        x.years(0, 1);
        x.due(0, 0);
        Edge.due("late(0)", x.late(0), 1);
        x.years(0, 1);
        Edge.due("late(0) behind years, put off to 38", x.late(0), 0);
        x.image();
        x.due(0, 0);
        Edge.due("late(0)", x.late(0), 1);
        x.back();
        Edge.due("late(0) behind back", x.late(0), 0);
        x.due(0, 0);
        x.bed(0);
        Edge.due("late(0) behind bed", x.late(0), 0);
        x.up(0);
        Edge.due("late(0) behind up", x.late(0), 1);
    }

    private static TollsForLate onDay(int day) {
        TollsForLate x = Edge.three();
        Edge.toDay(x, day);
        return x;
    }

    private static void foretold() {
        Edge.of("FORETOLD behind n DAYS (1 .. 60; those that can pass), nothing else being done: "
                + "RINGS, how many are LATE in all, WEATHER.");
        for (int n : new int[] {1, 2, 59, 60}) {
            TollsForLate x = Edge.three();
            TollsForLate y = Edge.three();
            int late = y.day(n);
            Edge.due("foretold(" + n + ", 0)", x.foretold(n, 0), y.is(1));
            Edge.due("foretold(" + n + ", 1)", x.foretold(n, 1), late);
            Edge.due("foretold(" + n + ", 2)", x.foretold(n, 2), y.is(2));
        }
        for (int left = 0; left < 3; left++) {
            TollsForLate x = onDay(9999 - left);
            Edge.due("foretold(2, 1), " + left + " left", x.foretold(2, 1), Math.min(2, left));
            Edge.due("foretold(60, 1), " + left + " left", x.foretold(60, 1), left);
            int weather = x.foretold(60, 2);
            int rings = x.foretold(60, 0);
            Edge.toDay(x, 9999);
            Edge.due("foretold(60, 2), " + left + " left", weather, x.is(2));
            Edge.due("foretold(60, 0), " + left + " left", rings, x.is(1));
        }
        TollsForLate z = onDay(9999);
        z.ring(3);
        Edge.due("foretold(1, 0) at 9999", z.foretold(1, 0), 3);
        Edge.of(20, "FORETOLD: 0 RINGS, 1 how many LATE in all of them, 2 WEATHER.");
        TollsForLate all = Edge.ruled(8, "takes 1;");
        Edge.due("foretold(60, 0)", all.foretold(60, 0), 255);
        Edge.due("foretold(60, 1)", all.foretold(60, 1), 480);
        Edge.due("foretold(1, 2)", all.foretold(1, 2), 9);
        TollsForLate nobody = new TollsForLate();
        Edge.due("foretold(60, 0) of nobody", nobody.foretold(60, 0), 0);
        Edge.due("foretold(60, 1) of nobody", nobody.foretold(60, 1), 0);
        Edge.due("foretold(1, 2) of nobody", nobody.foretold(1, 2), 9);
        Edge.of(20, "NONE for others.");
        for (int n : new int[] {0, -1, 61, Integer.MIN_VALUE, Integer.MAX_VALUE}) {
            Edge.refused("foretold(" + n + ", 0)", Edge::busy, t -> t.foretold(n, 0), -1);
        }
        for (int what : new int[] {-1, 3, Integer.MIN_VALUE, Integer.MAX_VALUE}) {
            Edge.refused("foretold(1, " + what + ")", Edge::busy, t -> t.foretold(1, what), -1);
        }
    }

    // ---- SETTLED ----

    private static void lateAndRunners() {
        Edge.of(21, "WOULD BE LATE (bits).");
        TollsForLate x = Edge.echo(8);
        Edge.due("late(255)", x.late(255), 255);
        Edge.due("late(128)", x.late(128), 128);
        Edge.due("late(0)", x.late(0), 0);
        Edge.due("late(0) of nobody", new TollsForLate().late(0), 0);
        rings(21, "NONE for others.", "late", TollsForLate::late);
        Edge.of(22, "WOULD RUN (bits).");
        Edge.due("runners(255)", x.runners(255), 255);
        Edge.due("runners(128)", x.runners(128), 255);
        Edge.due("runners(0)", x.runners(0), 0);
        Edge.due("runners(0) of nobody", new TollsForLate().runners(0), 0);
        rings(22, "NONE for others.", "runners", TollsForLate::runners);
    }

    private static void settled() {
        Edge.of("SETTLED: RINGS (of all of PERSONS) by which just those WOULD BE LATE for whom they are: "
                + "how many, the i-th, from the least bits on; the one for the fewest (the most) PERSONS; "
                + "of like ones the lowest.");
        // Just one of two must be rung for: 1 and 2 are alike; of one IN BED none is settled but 0.
        TollsForLate x = Edge.ruled(2, "takes 1-rings(1-who);");
        Edge.due("settled(-1)", x.settled(-1), 2);
        Edge.due("settled(0)", x.settled(0), 1);
        Edge.due("settled(1)", x.settled(1), 2);
        Edge.due("fewest(false)", x.fewest(false), 1);
        Edge.due("fewest(true)", x.fewest(true), 1);
        TollsForLate y = Edge.echo(3);
        y.bed(1);
        Edge.due("settled(-1) with one in bed", y.settled(-1), 4);
        Edge.due("settled(3)", y.settled(3), 5);
        Edge.of(23, "SETTLED: how many (i NONE), the i-th (bits).");
        TollsForLate all = Edge.echo(8);
        Edge.due("settled(-1) of all", all.settled(-1), 256);
        Edge.due("settled(0)", all.settled(0), 0);
        Edge.due("settled(255)", all.settled(255), 255);
        Edge.due("settled(-1) of none", Edge.mirror(8).settled(-1), 0);
        Edge.due("settled(-1) of nobody", new TollsForLate().settled(-1), 1);
        Edge.due("settled(0) of nobody", new TollsForLate().settled(0), 0);
        Edge.of(23, "-2 if there is none such.");
        Edge.due("settled(256) of all", all.settled(256), -2);
        Edge.due("settled(-2)", all.settled(-2), -2);
        Edge.due("settled(0) of none", Edge.mirror(8).settled(0), -2);
        Edge.due("settled(1) of nobody", new TollsForLate().settled(1), -2);
        Edge.due("settled(2) of two", x.settled(2), -2);
        for (int far : FAR) {
            Edge.refused("settled(" + far + ")", Edge::busy, t -> t.settled(far), -2);
        }
        Edge.of(24, "SETTLED for the fewest (most false), the most (most true; bits).");
        Edge.due("fewest(false) of all", all.fewest(false), 0);
        Edge.due("fewest(true) of all", all.fewest(true), 255);
        Edge.due("fewest(false) of one", Edge.three().fewest(false), 4);
        Edge.due("fewest(true) of one", Edge.three().fewest(true), 4);
        Edge.due("fewest(false) of nobody", new TollsForLate().fewest(false), 0);
        Edge.due("fewest(true) of nobody", new TollsForLate().fewest(true), 0);
        Edge.of(24, "NONE: none.");
        Edge.due("fewest(false) of none", Edge.mirror(8).fewest(false), -1);
        Edge.due("fewest(true) of none", Edge.mirror(1).fewest(true), -1);
    }

    // ---- what RINGS lead to ----

    private static void tailAndRound() {
        Edge.of("What RINGS lead to: those that WOULD BE LATE by them, then likewise.");
        TollsForLate slide = Edge.slide(8);
        Edge.due("after(255, 1)", slide.after(255, 1), 127);
        Edge.due("after(255, 2)", slide.after(255, 2), 63);
        Edge.of("TAIL: how many times till RINGS come that come again; "
                + "ROUND: how many times till those come again.");
        TollsForLate counter = Edge.counter();
        Edge.due("tail(0) of the longest round", counter.tail(0), 0);
        Edge.due("round(0) of the longest", counter.round(0), 256);
        Edge.due("round(255) of the longest", counter.round(255), 256);
        Edge.due("round(5) of two", Edge.mirror(3).round(5), 2);
        longestTail();
        Edge.of(25, "TAIL.");
        Edge.due("tail(0), settled", slide.tail(0), 0);
        Edge.due("tail(1)", slide.tail(1), 1);
        Edge.due("tail(128)", slide.tail(128), 8);
        Edge.due("tail(0) of nobody", new TollsForLate().tail(0), 0);
        rings(25, "NONE for others.", "tail", TollsForLate::tail);
        Edge.of(26, "ROUND.");
        Edge.due("round(0), settled", slide.round(0), 1);
        Edge.due("round(255)", slide.round(255), 1);
        Edge.due("round(0) of nobody", new TollsForLate().round(0), 1);
        rings(26, "NONE for others.", "round", TollsForLate::round);
        Edge.of("ROUNDS: how many unlike ones all RINGS lead to.");
        Edge.due("rounds() of two each", Edge.mirror(8).rounds(), 128);
        Edge.due("rounds() of the longest", counter.rounds(), 1);
        Edge.of(27, "ROUNDS.");
        Edge.due("rounds() of nobody", new TollsForLate().rounds(), 1);
        Edge.due("rounds() of all settled", Edge.echo(8).rounds(), 256);
        Edge.due("rounds() that die out", slide.rounds(), 1);
    }

    /** RINGS as a number, one more each time; those for all eight lead to others by what is told. */
    private static TollsForLate stair(String behindAll) {
        StringBuilder law = new StringBuilder("takes if who*(1-rings 0)<1");
        StringBuilder all = new StringBuilder("rings 0");
        for (int p = 1; p < 8; p++) {
            law.append(p < 7 ? "and(who-" + p + ")*(1-rings " + p + ")<1" : "");
            all.append("*rings " + p);
        }
        return Edge.ruled(8, law + "then if " + all + "=1then " + behindAll
                + "else 1-rings who end else rings who end;");
    }

    private static void longestTail() {
        TollsForLate x = stair("1");
        Edge.due("tail(0), the longest", x.tail(0), 255);
        Edge.due("tail(254)", x.tail(254), 1);
        Edge.due("tail(255)", x.tail(255), 0);
        Edge.due("round(0)", x.round(0), 1);
        Edge.due("times(0, 255)", x.times(0, 255), 255);
        Edge.due("times(255, 0)", x.times(255, 0), -1);
        Edge.due("apart(0, 255)", x.apart(0, 255), 255);
        Edge.due("basin(255)", x.basin(255), 256);
        Edge.due("basin(254)", x.basin(254), 255);
        Edge.due("never()", x.never(), 1);
        Edge.due("rounds()", x.rounds(), 1);
        // Behind RINGS for all come those for 7 alone: half of all are a tail, half a round.
        TollsForLate y = stair("who/7");
        Edge.due("tail(0)", y.tail(0), 128);
        Edge.due("tail(127)", y.tail(127), 1);
        Edge.due("tail(128)", y.tail(128), 0);
        Edge.due("round(0)", y.round(0), 128);
        Edge.due("times(255, 128)", y.times(255, 128), 1);
        Edge.due("times(255, 127)", y.times(255, 127), -1);
        Edge.due("basin(128)", y.basin(128), 256);
        Edge.due("basin(127)", y.basin(127), 128);
        Edge.due("apart(0, 128)", y.apart(0, 128), 128);
        Edge.due("apart(0, 129)", y.apart(0, 129), -1);
    }

    private static void basinAndNever() {
        Edge.of("BASIN of RINGS: how many RINGS (these, too, if so) lead to just these sooner or later, "
                + "0 times or more.");
        TollsForLate slide = Edge.slide(3);
        Edge.due("basin(7), which nothing leads to", slide.basin(7), 1);
        Edge.due("basin(3), to which 6 and 7 lead", slide.basin(3), 3);
        Edge.due("basin(0)", slide.basin(0), 8);
        Edge.of(28, "BASIN.");
        Edge.due("basin(0) of nobody", new TollsForLate().basin(0), 1);
        Edge.due("basin(255) of all settled", Edge.echo(8).basin(255), 1);
        Edge.due("basin(255) of the longest round", Edge.counter().basin(255), 256);
        rings(28, "NONE for others.", "basin", TollsForLate::basin);
        Edge.of("NEVER: how many RINGS no RINGS lead to by one time.");
        Edge.due("never()", slide.never(), 4);
        Edge.due("never() of one that is led to", Edge.ruled(8, "takes 1;").never(), 255);
        Edge.of(29, "NEVER.");
        Edge.due("never() of nobody", new TollsForLate().never(), 0);
        Edge.due("never() of all settled", Edge.echo(8).never(), 0);
        Edge.due("never() of all late always", Edge.ruled(1, "takes 1;").never(), 1);
    }

    private static void afterTimesApart() {
        Edge.of("AFTER n times (0 .. 60): what RINGS lead to.");
        TollsForLate counter = Edge.counter();
        for (int n : new int[] {0, 1, 59, 60}) {
            Edge.due("after(0, " + n + ")", counter.after(0, n), n);
            Edge.due("after(255, " + n + ")", counter.after(255, n), n + 255 & 255);
        }
        Edge.of(30, "AFTER (bits).");
        Edge.due("after(0, 0) of nobody", new TollsForLate().after(0, 0), 0);
        Edge.due("after(0, 60) of nobody", new TollsForLate().after(0, 60), 0);
        Edge.due("after(195, 60)", counter.after(195, 60), 255);
        Edge.due("after(196, 60)", counter.after(196, 60), 0);
        rings(30, "NONE for others.", "after", (t, r) -> t.after(r, 1));
        for (int n : new int[] {-1, 61, Integer.MIN_VALUE, Integer.MAX_VALUE}) {
            Edge.refused("after(0, " + n + ")", Edge::busy, t -> t.after(0, n), -1);
        }
        Edge.of("TIMES: behind how many times (0 and more) RINGS come to others first; never.");
        Edge.due("times(9, 9)", counter.times(9, 9), 0);
        Edge.due("times(9, 10)", counter.times(9, 10), 1);
        Edge.due("times(9, 8)", counter.times(9, 8), 255);
        Edge.of(31, "TIMES.");
        Edge.due("times(0, 0) of nobody", new TollsForLate().times(0, 0), 0);
        Edge.due("times(255, 0)", counter.times(255, 0), 1);
        Edge.of(31, "NONE: never, and for others.");
        Edge.due("times(1, 2), both settled", Edge.echo(2).times(1, 2), -1);
        Edge.due("times(0, 1), which die out", Edge.slide(8).times(0, 1), -1);
        rings(31, "NONE: never, and for others.", "times from", (t, r) -> t.times(r, r));
        Edge.due("times(0, 8) of three", Edge.echo(3).times(0, 8), -1);
        Edge.due("times(8, 0) of three", Edge.echo(3).times(8, 0), -1);
        Edge.due("times(0, -1) of three", Edge.echo(3).times(0, -1), -1);
        Edge.of("APART: behind how many times (0 and more) two RINGS come to the same first; never.");
        Edge.due("apart(9, 9)", counter.apart(9, 9), 0);
        Edge.due("apart(9, 10), which go round", counter.apart(9, 10), -1);
        Edge.due("apart(2, 3)", Edge.slide(8).apart(2, 3), 1);
        Edge.due("apart(0, 128)", Edge.slide(8).apart(0, 128), 8);
        Edge.of(32, "APART.");
        Edge.due("apart(0, 0) of nobody", new TollsForLate().apart(0, 0), 0);
        Edge.due("apart(255, 255)", Edge.echo(8).apart(255, 255), 0);
        Edge.of(32, "NONE: never, and for others.");
        Edge.due("apart(0, 1), both settled", Edge.echo(1).apart(0, 1), -1);
        Edge.due("apart(0, 1), of one round", Edge.mirror(1).apart(0, 1), -1);
        rings(32, "NONE: never, and for others.", "apart", (t, r) -> t.apart(r, r));
        Edge.due("apart(0, 8) of three", Edge.slide(3).apart(0, 8), -1);
        Edge.due("apart(8, 0) of three", Edge.slide(3).apart(8, 0), -1);
        Edge.due("apart(0, -1) of three", Edge.slide(3).apart(0, -1), -1);
    }

    private static void alwaysAndCalm() {
        Edge.of("ALWAYS: how many RINGS are SETTLED by each WEATHER 0 .. 9.");
        for (int w = 0; w < 11; w++) {
            TollsForLate x = Edge.ruled(2, "takes if weather=" + w + " then 1 else rings who end;");
            Edge.due("always(), all late by " + w, x.always(), w < 10 ? 1 : 4);
            TollsForLate y = Edge.ruled(2, "takes if weather=" + w + " then 1-rings who else rings who end;");
            Edge.due("always(), none settled by " + w, y.always(), w < 10 ? 0 : 4);
        }
        // By another WEATHER than 0 as now, too, and behind questions that ask of others.
        TollsForLate z = Edge.ruled(2, "takes if weather=0 then 1 else rings who end;");
        z.day(1);
        Edge.due("is(2)", z.is(2), 9);
        Edge.due("settled(-1) by WEATHER 9", z.settled(-1), 4);
        Edge.due("always()", z.always(), 1);
        z.asleep(true);
        Edge.due("always() behind asleep", z.always(), 1);
        Edge.of(33, "ALWAYS.");
        Edge.due("always() of nobody", new TollsForLate().always(), 1);
        Edge.due("always() of all", Edge.echo(8).always(), 256);
        Edge.due("always() of none", Edge.mirror(8).always(), 0);
        Edge.of("CALM: the RINGS by which the fewest (or the most) WOULD BE LATE; of like ones the lowest.");
        TollsForLate slide = Edge.slide(3);
        Edge.due("calm(false), 0 and 1 are alike", slide.calm(false), 0);
        Edge.due("calm(true), 6 and 7 are alike", slide.calm(true), 6);
        Edge.due("calm(false), 1 and all others but 0 are alike", Edge.three().calm(false), 1);
        Edge.due("calm(false), all are alike", Edge.ruled(8, "takes 1;").calm(false), 0);
        Edge.due("calm(true), all are alike", Edge.ruled(8, "takes 1;").calm(true), 0);
        Edge.of(34, "CALM (bits; most true: the most).");
        Edge.due("calm(false) of nobody", new TollsForLate().calm(false), 0);
        Edge.due("calm(true) of nobody", new TollsForLate().calm(true), 0);
        Edge.due("calm(true)", Edge.echo(8).calm(true), 255);
        Edge.due("calm(false)", Edge.mirror(8).calm(false), 255);
        Edge.due("calm(true)", Edge.mirror(8).calm(true), 0);
    }

    private static void helpedAndEarly() {
        Edge.of("HELPED by RINGS: who WOULD BE LATE by no RINGS and wouldn't by these; "
                + "HARMED: who wouldn't by none, and WOULD by these.");
        TollsForLate x = Edge.ruled(4, "takes if who<2 then rings who else 1-rings who end;");
        Edge.due("helped(15, false)", x.helped(15, false), 12);
        Edge.due("helped(15, true)", x.helped(15, true), 3);
        Edge.due("helped(0, false)", x.helped(0, false), 0);
        Edge.due("helped(0, true)", x.helped(0, true), 0);
        Edge.of(35, "HELPED, HARMED (bits).");
        Edge.due("helped(255, false)", Edge.mirror(8).helped(255, false), 255);
        Edge.due("helped(255, true)", Edge.echo(8).helped(255, true), 255);
        Edge.due("helped(0, true) of nobody", new TollsForLate().helped(0, true), 0);
        rings(35, "NONE for others.", "helped", (t, r) -> t.helped(r, false));
        rings(35, "NONE for others.", "harmed", (t, r) -> t.helped(r, true));
        Edge.of("EARLY by RINGS: minutes, by which takes is less than DUE, of all that are up together.");
        for (int due = 49; due <= 51; due++) {
            TollsForLate y = new TollsForLate();
            y.person(0, 50, 1, due);
            Edge.due("early(0) of DUE " + due, y.early(0), Math.max(0, due - 50));
            y.bed(0);
            Edge.due("early(0) in bed", y.early(0), 0);
        }
        TollsForLate z = Edge.ruled(2, "takes if who=0 then 9999 else 1 end;");
        z.due(1, 99);
        Edge.due("early(0), though one is late", z.early(0), 98);
        Edge.of(36, "EARLY.");
        TollsForLate most = Edge.ruled(8, "takes 0;");
        for (int p = 0; p < 8; p++) {
            most.due(p, 99);
        }
        Edge.due("early(0) of the most", most.early(0), 792);
        Edge.due("early(255) of the most", most.early(255), 792);
        Edge.due("early(0) of nobody", new TollsForLate().early(0), 0);
        rings(36, "NONE for others.", "early", TollsForLate::early);
    }

    private static void weathers() {
        Edge.of("WEATHERS: by how many of WEATHERS 0 .. 9 a PERSON WOULD BE LATE by RINGS as now.");
        for (int w = 0; w < 11; w++) {
            TollsForLate x = Edge.ruled(2, "takes if weather<" + w + " then 1 else 0 end;");
            Edge.due("weathers(1) below " + w, x.weathers(1), w < 10 ? w : 10);
            TollsForLate y = Edge.ruled(2, "takes if weather=" + w + " then 1 else 0 end;");
            Edge.due("weathers(0) of " + w, y.weathers(0), w < 10 ? 1 : 0);
        }
        TollsForLate z = Edge.echo(8);
        z.ring(128);
        Edge.of(37, "WEATHERS.");
        Edge.due("weathers(7)", z.weathers(7), 10);
        Edge.due("weathers(6)", z.weathers(6), 0);
        z.bed(7);
        Edge.due("weathers(7) in bed", z.weathers(7), 0);
        Edge.due("late(128) behind it", z.late(128), 0);
        person(37, "NONE for others.", "weathers", TollsForLate::weathers, -1);
    }

    private static void needless() {
        Edge.of("NEEDLESS: those (bits) that run by RINGS as now, for whom takes says no more than DUE, "
                + "were they to walk, the others running as they do.");
        for (int due = 19; due <= 21; due++) {
            TollsForLate x = new TollsForLate();
            x.person(0, 20, 10, due);
            Edge.due("needless(), nobody runs", x.needless(), 0);
            x.ring(1);
            Edge.due("needless() of DUE " + due, x.needless(), due < 20 ? 0 : 1);
            // With two others on its ROAD, walking takes a minute more.
            x.person(0, 90, 80, 0);
            x.person(0, 90, 80, 0);
            Edge.due("needless() by a jam, of DUE " + due, x.needless(), due < 21 ? 0 : 1);
            x.bed(0);
            Edge.due("needless() in bed", x.needless(), 0);
        }
        Edge.of(38, "NEEDLESS (bits).");
        Edge.due("needless() of nobody", new TollsForLate().needless(), 0);
        TollsForLate all = Edge.ruled(8, "runs 1;takes 0;");
        Edge.due("needless() of all", all.needless(), 255);
        Edge.due("needless() of none", Edge.ruled(8, "runs 1;takes 1-fast;").needless(), 0);
    }

    private static void lateness() {
        Edge.of("LATENESS of a PERSON by RINGS as now: 0 it WOULD not BE LATE; else 1, if it WOULD by all "
                + "RINGS; else 2, if it runs, and takes says no more than DUE, were it to walk, the others "
                + "running as they do; else 3, if takes says no more than DUE, were nobody else to run; "
                + "else 4.");
        for (int due = 4; due <= 10; due++) {
            // Running takes 9, walking 5, and a jam of two one more; by no RINGS nobody runs.
            TollsForLate x = new TollsForLate();
            x.person(0, 5, 9, due);
            x.person(0, 5, 9, 99);
            x.person(0, 5, 9, 99);
            x.ring(1);
            int want = due >= 10 ? 0 : due >= 6 ? 2 : due >= 5 ? 4 : 1;
            Edge.due("lateness(0) of DUE " + due, x.lateness(0), want);
            x.bed(0);
            Edge.due("lateness(0) in bed", x.lateness(0), 0);
        }
        for (int due = 8; due <= 10; due++) {
            // It walks in 9 and hears nothing, the others make a jam of two.
            TollsForLate y = new TollsForLate();
            y.person(0, 9, 99, due);
            y.person(0, 5, 9, 99);
            y.person(0, 5, 9, 99);
            y.hears(0, 1, false);
            y.ring(2);
            Edge.due("lateness(0), walking, of DUE " + due, y.lateness(0), due >= 10 ? 0 : due >= 9 ? 3 : 1);
        }
        // By this law one other is enough to be late; were nobody else to run, it would not be.
        TollsForLate jam = Edge.ruled(2, "takes jam;");
        jam.ring(1);
        Edge.due("lateness(0) by one other", jam.lateness(0), 3);
        TollsForLate own = Edge.ruled(2, "takes jam+fast;");
        own.ring(1);
        Edge.due("lateness(0) by itself, too", own.lateness(0), 4);
        Edge.of(39, "LATENESS.");
        TollsForLate z = Edge.echo(8);
        Edge.due("lateness(7)", z.lateness(7), 0);
        z.ring(128);
        Edge.due("lateness(7)", z.lateness(7), 4);
        Edge.due("lateness(7) by all RINGS", Edge.ruled(8, "takes 1;").lateness(7), 1);
        person(39, "NONE for others.", "lateness", TollsForLate::lateness, -1);
    }

    private static void race() {
        Edge.of("A RACE: the first n (1 and more, of those told) PERSONS are gone through by number; "
                + "for those of even numbers one chooses whether it rings for each, for those of odd "
                + "numbers another one; the former wants as many as can be to be LATE by these RINGS, the "
                + "latter as few, both seeing all: how many are; whether it rings for PERSON 0 "
                + "(alike: it doesn't).");
        TollsForLate x = Edge.echo(8);
        TollsForLate y = Edge.mirror(8);
        for (int n = 1; n <= 8; n++) {
            Edge.due("race(" + n + ", false) of echo", x.race(n, false), (n + 1) / 2);
            Edge.due("race(" + n + ", true) of echo", x.race(n, true), 1);
            Edge.due("race(" + n + ", false) of mirror", y.race(n, false), 8 - n / 2);
            Edge.due("race(" + n + ", true) of mirror", y.race(n, true), 0);
        }
        TollsForLate alike = Edge.ruled(8, "takes 1;");
        Edge.due("race(8, true), alike", alike.race(8, true), 0);
        // Late are all, if RINGS are for 0 and for 7, and PERSON 7 sees what was chosen for 0.
        TollsForLate seen = Edge.ruled(8, "takes if rings 0=rings 7 then 1 else 0 end;");
        Edge.due("race(8, false)", seen.race(8, false), 0);
        Edge.due("race(7, false)", seen.race(7, false), 8);
        Edge.due("race(7, true)", seen.race(7, true), 0);
        Edge.of(40, "A RACE: how many (choice false), whether it rings (choice true; 1, 0).");
        Edge.due("race(1, false) of one", Edge.echo(1).race(1, false), 1);
        Edge.due("race(1, true) of one", Edge.echo(1).race(1, true), 1);
        Edge.due("race(1, false) of one", Edge.ruled(1, "takes 0;").race(1, false), 0);
        Edge.due("race(1, true) of one", Edge.ruled(1, "takes 0;").race(1, true), 0);
        Edge.of(40, "NONE for others.");
        for (int n : new int[] {0, -1, 4, 9, Integer.MIN_VALUE, Integer.MAX_VALUE}) {
            Edge.refused("race(" + n + ", false)", Edge::busy, t -> t.race(n, false), -1);
            Edge.refused("race(" + n + ", true)", Edge::busy, t -> t.race(n, true), -1);
        }
        Edge.refused("race(9, false) of eight", Edge::full, t -> t.race(9, false), -1);
        Edge.refused("race(1, false) of nobody", TollsForLate::new, t -> t.race(1, false), -1);
        Edge.refused("race(0, true) of nobody", TollsForLate::new, t -> t.race(0, true), -1);
    }

    static void all() {
        changesNothing();
        foretold();
        lateAndRunners();
        settled();
        tailAndRound();
        basinAndNever();
        afterTimesApart();
        alwaysAndCalm();
        helpedAndEarly();
        weathers();
        needless();
        lateness();
        race();
    }
}
