/** Boundary cases of "Terms" and of what is told, done and so: promises 1 to 3, 9 to 13, 16 to 19, 57. */
final class EdgesOfTerms {
    private static final int[] FAR = {Integer.MIN_VALUE, Integer.MAX_VALUE, 1 << 30, -65536, 65536};

    private EdgesOfTerms() {
    }

    static int anew(int x) {
        return (x * 463 + 353) % 30643;
    }

    // ---- PERSONS ----

    private static void personsOneByOne() {
        Edge.of("PERSONS 0 .. 7 (told one by one)");
        TollsForLate x = new TollsForLate();
        for (int p = 0; p < 8; p++) {
            Edge.due("of one not told", x.of(p, 0), -1);
            Edge.due("person " + p, x.person(p % 4, 10 + p, 20 + p, 30 + p), p);
            Edge.due("about(0)", x.about(0), p + 1);
            Edge.due("of the one told", x.of(p, 1), 10 + p);
        }
        Edge.due("person 8", x.person(0, 1, 1, 1), -1);
        Edge.due("of(8, 0)", x.of(8, 0), -1);
        Edge.due("ring(255)", x.ring(255), true);
        Edge.due("ring(256)", x.ring(256), false);
    }

    private static Edge.Recipe two() {
        return () -> {
            TollsForLate x = new TollsForLate();
            x.person(1, 2, 3, 4);
            x.person(2, 5, 6, 7);
            x.ring(2);
            return x;
        };
    }

    private static void tells(int slot, int value, boolean can) {
        int[] row = {1, 2, 3, 4};
        row[slot] = value;
        String call = "person(" + row[0] + ", " + row[1] + ", " + row[2] + ", " + row[3] + ")";
        if (!can) {
            Edge.refused(call, two(), x -> x.person(row[0], row[1], row[2], row[3]), -1);
            return;
        }
        TollsForLate x = two().town();
        Edge.due(call, x.person(row[0], row[1], row[2], row[3]), 2);
        Edge.due("of(2, " + slot + ")", x.of(2, slot), value);
        Edge.due("about(0)", x.about(0), 3);
        Edge.due("about(3)", x.about(3), 1);
    }

    private static void range(int slot, int low, int high) {
        tells(slot, low - 1, false);
        tells(slot, low, true);
        tells(slot, high, true);
        tells(slot, high + 1, false);
        for (int far : FAR) {
            tells(slot, far, false);
        }
    }

    private static void roadWalkRunDue() {
        Edge.of("ROAD 0 .. 3");
        range(0, 0, 3);
        Edge.of("WALK, RUN 1 .. 99");
        range(1, 1, 99);
        range(2, 1, 99);
        Edge.of("DUE 0 .. 99 (as told)");
        range(3, 0, 99);
    }

    private static void atFirstUp() {
        Edge.of("IN BED or up (at first up)");
        TollsForLate x = Edge.three();
        for (int p = 0; p < 3; p++) {
            Edge.due("of(p, 4)", x.of(p, 4), 0);
            Edge.due("up(p)", x.up(p), false);
        }
        x.bed(0);
        x.person(0, 1, 1, 1);
        Edge.due("of(3, 4) of one told behind", x.of(3, 4), 0);
    }

    private static void howOftenLate() {
        Edge.of("how often it was LATE 0 .. 9999 (at first 0)");
        TollsForLate x = Edge.three();
        Edge.due("of(2, 5)", x.of(2, 5), 0);
        Edge.toDay(x, 9998);
        Edge.due("of(2, 5)", x.of(2, 5), 9998);
        Edge.due("day(1)", x.day(1), 1);
        Edge.due("of(2, 5)", x.of(2, 5), 9999);
        Edge.due("day(1)", x.day(1), -1);
        x.years(5, 40);
        Edge.due("of(2, 5)", x.of(2, 5), 9999);
        x.undo();
        x.undo();
        Edge.due("of(2, 5)", x.of(2, 5), 9998);
        x.person(0, 1, 1, 1);
        Edge.due("of(3, 5) of one told behind", x.of(3, 5), 0);
    }

    private static void atFirstHearsAll() {
        Edge.of("each HEARS rings for some PERSONS (told; at first for all)");
        TollsForLate x = Edge.people(8);
        for (int p = 0; p < 8; p++) {
            Edge.due("of(p, 8)", x.of(p, 8), 255);
            Edge.due("runners", x.runners(1 << p), 255);
        }
        for (int q = 0; q < 8; q++) {
            Edge.due("hears(7, q, false)", x.hears(7, q, false), true);
            Edge.due("of(7, 8)", x.of(7, 8), 255 & -2 << q);
        }
        Edge.due("runners(255)", x.runners(255), 127);
    }

    private static void atFirst() {
        Edge.of("RINGS: for whom it rings (bits; at first nobody).");
        Edge.due("is(1)", new TollsForLate().is(1), 0);
        TollsForLate x = Edge.people(8);
        Edge.due("is(1)", x.is(1), 0);
        x.ring(255);
        Edge.due("is(1)", x.is(1), 255);
        Edge.of("X: at first 229.");
        Edge.due("is(3)", new TollsForLate().is(3), 229);
        Edge.of("WEATHER 0 .. 9 (at first 0).");
        Edge.due("is(2)", new TollsForLate().is(2), 0);
        int seen = 0;
        TollsForLate y = new TollsForLate();
        for (int i = 0; i < 60; i++) {
            y.day(1);
            Edge.due("is(2) is 0 .. 9", y.is(2) >= 0 && y.is(2) <= 9, true);
            seen |= 1 << y.is(2);
        }
        Edge.due("all WEATHERS in 60 days", seen, 1023);
        Edge.of("DAY 0 .. 9999 (at first 0).");
        Edge.due("is(0)", new TollsForLate().is(0), 0);
        TollsForLate z = Edge.lastDay();
        Edge.due("is(0)", z.is(0), 9999);
        Edge.due("undo()", z.undo(), 29);
        Edge.due("is(0)", z.is(0), 9998);
    }

    private static void newObject() {
        Edge.of(1, "Nobody; THE IMAGE is this.");
        TollsForLate x = new TollsForLate();
        Edge.due("about(0)", x.about(0), 0);
        Edge.due("back()", x.back(), 0);
        Edge.alike("behind back()", x, new TollsForLate());
        TollsForLate y = Edge.full();
        int bytes = y.about(6);
        Edge.due("back()", y.back(), 0);
        Edge.due("about(6), which no image holds", y.about(6), bytes);
        y.end(0);
        TollsForLate z = new TollsForLate();
        Edge.write(y, "");
        Edge.write(z, "");
        Edge.alike("a new one again", y, z);
    }

    private static void person() {
        Edge.of(2, "A PERSON: the number.");
        TollsForLate x = new TollsForLate();
        Edge.due("the first", x.person(0, 1, 1, 0), 0);
        for (int p = 1; p < 7; p++) {
            x.person(3, 99, 99, 99);
        }
        Edge.due("the last", x.person(3, 99, 99, 99), 7);
        Edge.of(2, "NONE for others, or if there are 8.");
        Edge.refused("person of ROAD 4", Edge::busy, t -> t.person(4, 1, 1, 1), -1);
        Edge.refused("the ninth", Edge::full, t -> t.person(0, 1, 1, 1), -1);
        Edge.refused("the first, of WALK 0", TollsForLate::new, t -> t.person(0, 0, 1, 1), -1);
    }

    private static void hears() {
        Edge.of(3, "HEARS told: true.");
        TollsForLate x = new TollsForLate();
        for (int p = 0; p < 8; p += 7) {
            for (int q = 0; q < 8; q += 7) {
                Edge.due("hears", x.hears(p, q, false), true);
                Edge.due("hears once more", x.hears(p, q, false), true);
            }
        }
        for (int p = 0; p < 8; p++) {
            x.person(0, 1, 1, 1);
            Edge.due("of(p, 8)", x.of(p, 8), p == 0 || p == 7 ? 126 : 255);
        }
        Edge.due("runners(129)", x.runners(129), 126);
        Edge.due("hears(7, 7, true)", x.hears(7, 7, true), true);
        Edge.due("hears(0, 0, true)", x.hears(0, 0, true), true);
        Edge.due("of(7, 8)", x.of(7, 8), 254);
        Edge.due("of(0, 8)", x.of(0, 8), 127);
        Edge.due("runners(128)", x.runners(128), 254);
        Edge.of(3, "False for others (PERSONS there or not).");
        int[] others = {-1, 8, 32, 31, -32, Integer.MIN_VALUE, Integer.MAX_VALUE};
        for (int o : others) {
            Edge.refused("hears(" + o + ", 0)", Edge::busy, t -> Edge.bit(t.hears(o, 0, false)), 0);
            Edge.refused("hears(0, " + o + ")", Edge::busy, t -> Edge.bit(t.hears(0, o, false)), 0);
            Edge.refused("hears(5, " + o + ")", Edge::busy, t -> Edge.bit(t.hears(5, o, true)), 0);
        }
    }

    // ---- what is done ----

    private static void ring() {
        Edge.of("RUNG: RINGS are for some PERSONS (bits).");
        TollsForLate x = Edge.three();
        for (int r = 7; r >= 0; r--) {
            Edge.due("ring(" + r + ")", x.ring(r), true);
            Edge.due("is(1)", x.is(1), r);
        }
        Edge.of(9, "RUNG: true.");
        TollsForLate nobody = new TollsForLate();
        Edge.due("ring(0) for nobody", nobody.ring(0), true);
        Edge.due("about(3)", nobody.about(3), 1);
        TollsForLate one = Edge.people(1);
        Edge.due("ring(1)", one.ring(1), true);
        Edge.due("ring(1) again", one.ring(1), true);
        Edge.due("about(3)", one.about(3), 2);
        Edge.due("ring(255) of eight", Edge.people(8).ring(255), true);
        Edge.of(9, "False for others (PERSONS not told).");
        Edge.refused("ring(1) for nobody", TollsForLate::new, t -> Edge.bit(t.ring(1)), 0);
        Edge.refused("ring(8) of three", Edge::busy, t -> Edge.bit(t.ring(8)), 0);
        Edge.refused("ring(9) of three", Edge::busy, t -> Edge.bit(t.ring(9)), 0);
        Edge.refused("ring(256) of eight", Edge::full, t -> Edge.bit(t.ring(256)), 0);
        Edge.refused("ring(-1)", Edge::full, t -> Edge.bit(t.ring(-1)), 0);
        for (int far : FAR) {
            Edge.refused("ring(" + far + ")", Edge::busy, t -> Edge.bit(t.ring(far)), 0);
        }
    }

    private static void due() {
        Edge.of("PUT OFF: a PERSON's DUE is another one (0 .. 99).");
        for (int due : new int[] {0, 1, 98, 99}) {
            TollsForLate x = Edge.three();
            Edge.due("due(2, " + due + ")", x.due(2, due), true);
            Edge.due("of(2, 3)", x.of(2, 3), due);
            Edge.due("about(3)", x.about(3), 1);
        }
        Edge.of(10, "PUT OFF: true.");
        TollsForLate x = Edge.people(8);
        Edge.due("due(7, 99)", x.due(7, 99), true);
        Edge.due("due(7, 0)", x.due(7, 0), true);
        Edge.due("undo()", x.undo(), 1);
        Edge.due("of(7, 3)", x.of(7, 3), 99);
        Edge.of(10, "False, if it is DUE then, and for others.");
        Edge.refused("due(1, 60), as it is", Edge::busy, t -> Edge.bit(t.due(1, 60)), 0);
        Edge.refused("due(1, -1)", Edge::busy, t -> Edge.bit(t.due(1, -1)), 0);
        Edge.refused("due(1, 100)", Edge::busy, t -> Edge.bit(t.due(1, 100)), 0);
        Edge.refused("due(3, 5)", Edge::busy, t -> Edge.bit(t.due(3, 5)), 0);
        Edge.refused("due(-1, 5)", Edge::busy, t -> Edge.bit(t.due(-1, 5)), 0);
        Edge.refused("due(8, 5) of eight", Edge::full, t -> Edge.bit(t.due(8, 5)), 0);
        Edge.refused("due(0, 0) of nobody", TollsForLate::new, t -> Edge.bit(t.due(0, 0)), 0);
        for (int far : FAR) {
            Edge.refused("due(1, " + far + ")", Edge::busy, t -> Edge.bit(t.due(1, far)), 0);
            Edge.refused("due(" + far + ", 1)", Edge::busy, t -> Edge.bit(t.due(far, 1)), 0);
        }
    }

    private static void bedAndUp() {
        Edge.of("IN BED, UP: a PERSON is so.");
        TollsForLate x = Edge.people(8);
        for (int p = 0; p < 8; p++) {
            Edge.due("bed(p)", x.bed(p), true);
            Edge.due("of(p, 4)", x.of(p, 4), 1);
        }
        Edge.due("late(0), all in bed", x.late(0), 0);
        Edge.due("up(7)", x.up(7), true);
        Edge.due("late(0)", x.late(0), 128);
        Edge.of(11, "IN BED: true.");
        TollsForLate y = Edge.people(8);
        Edge.due("bed(0)", y.bed(0), true);
        Edge.due("bed(7)", y.bed(7), true);
        Edge.due("about(3)", y.about(3), 2);
        Edge.of(12, "UP: true.");
        Edge.due("up(7)", y.up(7), true);
        Edge.due("up(0)", y.up(0), true);
        Edge.due("about(3)", y.about(3), 4);
        Edge.due("undo()", y.undo(), 3);
        Edge.due("of(0, 4)", y.of(0, 4), 1);
        Edge.of(11, "False, if it is, and for others.");
        Edge.refused("bed(2), in bed", Edge::busy, t -> Edge.bit(t.bed(2)), 0);
        Edge.refused("bed(3) of three", Edge::busy, t -> Edge.bit(t.bed(3)), 0);
        Edge.refused("bed(0) of nobody", TollsForLate::new, t -> Edge.bit(t.bed(0)), 0);
        Edge.of(12, "False, if it is, and for others.");
        Edge.refused("up(0), up", Edge::busy, t -> Edge.bit(t.up(0)), 0);
        Edge.refused("up(3) of three", Edge::busy, t -> Edge.bit(t.up(3)), 0);
        Edge.refused("up(0) of nobody", TollsForLate::new, t -> Edge.bit(t.up(0)), 0);
        for (int far : new int[] {-1, 8, 34, -30, Integer.MIN_VALUE, Integer.MAX_VALUE}) {
            Edge.of(11, "False, if it is, and for others.");
            Edge.refused("bed(" + far + ")", Edge::full, t -> Edge.bit(t.bed(far)), 0);
            Edge.of(12, "False, if it is, and for others.");
            Edge.refused("up(" + far + ")", Edge::busy, t -> Edge.bit(t.up(far)), 0);
        }
    }

    private static void runsAndLate() {
        Edge.of("WOULD RUN by RINGS: of PERSONS that are up, those for whom runs says more than 0.");
        String[] says = {"-9999*9999", "-1", "0", "1", "9", "10", "9999*9999"};
        for (int i = 0; i < says.length; i++) {
            TollsForLate x = Edge.ruled(2, "runs " + says[i] + ";");
            Edge.due("runners(0) by " + says[i], x.runners(0), i > 2 ? 3 : 0);
            Edge.due("of(0, 6)", x.of(0, 6), i > 2 ? 1 : 0);
            x.bed(1);
            Edge.due("runners(0) with one in bed", x.runners(0), i > 2 ? 1 : 0);
            Edge.due("of(1, 6)", x.of(1, 6), 0);
        }
        Edge.of("WOULD BE LATE: of those that are up, those for whom takes says more than DUE.");
        for (int due : new int[] {0, 1, 50, 98, 99}) {
            for (int more = -1; more < 2; more++) {
                TollsForLate x = new TollsForLate();
                x.person(0, 1, 1, due);
                x.person(0, 1, 1, 99);
                Edge.write(x, "takes " + due + "+" + more + ";");
                x.by(0);
                Edge.due("late(0) of DUE " + due, x.late(0) & 1, more > 0 ? 1 : 0);
                x.bed(0);
                Edge.due("late(0) in bed", x.late(0) & 1, 0);
            }
        }
    }

    // ---- DAYS ----

    private static void aDay() {
        Edge.of("A DAY: WEATHER is X mod 10 (X being (X * 463 + 353) mod 30643 then); "
                + "those that WOULD BE LATE by RINGS are LATE once more; written down; "
                + "RINGS are for them then.");
        TollsForLate x = new TollsForLate();
        int drawn = 229;
        for (int i = 0; i < 60; i++) {
            x.day(1);
            Edge.due("is(2)", x.is(2), drawn % 10);
            drawn = anew(drawn);
            Edge.due("is(3)", x.is(3), drawn);
        }
        // A number that is just below the one at which X begins anew, and the one behind it.
        for (int seed = 0; seed < 10000; seed++) {
            int last = seed * 2 + 229;
            int full = last * 463 + 353;
            if (full % 30643 < 20 || full % 30643 > 30622) {
                TollsForLate y = new TollsForLate();
                y.years(seed, 1);
                int behind = last % 6 >= 4 ? anew(anew(last)) : anew(last);
                Edge.due("is(3) by SEED " + seed, y.is(3), behind);
            }
        }
        TollsForLate z = Edge.mirror(8);
        Edge.due("day(1)", z.day(1), 8);
        Edge.due("is(1)", z.is(1), 255);
        Edge.due("book(0, 1)", z.book(0, 1), 0);
        Edge.due("day(1)", z.day(1), 0);
        Edge.due("is(1)", z.is(1), 0);
        Edge.due("book(1, 1)", z.book(1, 1), 255);
        Edge.due("of(7, 5)", z.of(7, 5), 1);
    }

    private static TollsForLate onDay(int day) {
        TollsForLate x = Edge.three();
        Edge.toDay(x, day);
        return x;
    }

    private static void none9999() {
        Edge.of("DAY is one more (at 9999 none can pass).");
        TollsForLate x = onDay(9998);
        Edge.due("day(1)", x.day(1), 1);
        Edge.due("is(0)", x.is(0), 9999);
        Edge.due("book(29, 0)", x.book(29, 0), 9998);
        Edge.due("about(3)", x.about(3), 30);
        Edge.refused("day(1) at 9999", Edge::lastDay, t -> t.day(1), -1);
        Edge.refused("day(60) at 9999", Edge::lastDay, t -> t.day(60), -1);
    }

    private static void day() {
        Edge.of(13, "DAYS pass (1 .. 60): how many were LATE in them, all together.");
        Edge.due("day(1)", Edge.three().day(1), 2);
        TollsForLate x = Edge.three();
        Edge.due("day(60)", x.day(60), 61);
        Edge.due("is(0)", x.is(0), 60);
        Edge.due("about(3)", x.about(3), 30);
        Edge.due("day(60) of all late", Edge.ruled(8, "takes 1;").day(60), 480);
        Edge.due("day(60) of nobody", new TollsForLate().day(60), 0);
        Edge.due("day(60) up to 9999", onDay(9939).day(60), 60);
        Edge.of(13, "NONE for others, or beyond 9999 (nothing is done then).");
        for (int n : new int[] {0, 61, -1, -60, Integer.MIN_VALUE, Integer.MAX_VALUE}) {
            Edge.refused("day(" + n + ")", Edge::busy, t -> t.day(n), -1);
        }
        Edge.refused("day(60) from 9940 on", () -> onDay(9940), t -> t.day(60), -1);
        Edge.refused("day(2) from 9998 on", () -> onDay(9998), t -> t.day(2), -1);
        Edge.refused("day of the least number at 9999", Edge::lastDay,
                t -> t.day(Integer.MIN_VALUE), -1);
    }

    private static void book() {
        Edge.of("BOOK (the latest 30 DAYS): DAY, RINGS, LATE, WEATHER.");
        TollsForLate x = Edge.three();
        Edge.due("book(-1, 0)", x.book(-1, 0), 0);
        x.day(29);
        Edge.due("book(-1, 0)", x.book(-1, 0), 29);
        Edge.due("book(29, 0)", x.book(29, 0), -2);
        x.day(1);
        Edge.due("book(-1, 0)", x.book(-1, 0), 30);
        Edge.due("book(0, 0)", x.book(0, 0), 0);
        Edge.due("book(0, 2)", x.book(0, 2), 5);
        Edge.due("book(29, 0)", x.book(29, 0), 29);
        x.day(1);
        Edge.due("book(-1, 0)", x.book(-1, 0), 30);
        Edge.due("book(0, 0)", x.book(0, 0), 1);
        Edge.due("book(0, 2)", x.book(0, 2), 4);
        Edge.due("book(29, 0)", x.book(29, 0), 30);
        Edge.due("undo()", x.undo(), 29);
        Edge.due("book(0, 0), come back", x.book(0, 0), 0);
        Edge.due("book(29, 0)", x.book(29, 0), 29);
        Edge.due("undo()", x.undo(), 28);
        Edge.due("book(-1, 0)", x.book(-1, 0), 29);
        Edge.of(19, "BOOK: how many (i NONE); the i-th, from the eldest on: 0 DAY, 1 RINGS, 2 LATE, "
                + "3 WEATHER.");
        TollsForLate y = Edge.mirror(8);
        y.day(30);
        int drawn = 229;
        for (int i = 0; i < 30; i++) {
            Edge.due("DAY", y.book(i, 0), i);
            Edge.due("RINGS", y.book(i, 1), i % 2 == 0 ? 0 : 255);
            Edge.due("LATE", y.book(i, 2), i % 2 == 0 ? 255 : 0);
            Edge.due("WEATHER", y.book(i, 3), drawn % 10);
            drawn = anew(drawn);
        }
        Edge.due("book(-1, 3)", y.book(-1, 3), 30);
        TollsForLate z = Edge.lastDay();
        Edge.due("book(29, 0)", z.book(29, 0), 9998);
        Edge.due("book(0, 0)", z.book(0, 0), 9969);
        noSuchPage();
    }

    private static void noSuchPage() {
        Edge.of(19, "-2 if there is none such, and for others.");
        Edge.due("book(0, 0) of none", new TollsForLate().book(0, 0), -2);
        Edge.refused("book(5, 0) of five", Edge::busy, t -> t.book(5, 0), -2);
        Edge.refused("book(-2, 0)", Edge::busy, t -> t.book(-2, 0), -2);
        Edge.refused("book(30, 0) of thirty", Edge::full, t -> t.book(30, 0), -2);
        Edge.refused("book(0, 4)", Edge::full, t -> t.book(0, 4), -2);
        Edge.refused("book(29, -1)", Edge::full, t -> t.book(29, -1), -2);
        for (int far : FAR) {
            Edge.due("book(" + far + ", 0)", Edge.full().book(far, 0), -2);
            Edge.due("book(0, " + far + ")", Edge.full().book(0, far), -2);
        }
    }

    // ---- STEPS ----

    private static void thirtySteps() {
        Edge.of("STEPS: RUNG, PUT OFF, IN BED, UP, a DAY (each), YEARS (see V): "
                + "the latest 30 can be taken back, the latest first");
        Edge.Call[] kinds = {t -> Edge.bit(t.ring(1)), t -> Edge.bit(t.due(0, 99 - t.of(0, 3))),
            t -> Edge.bit(t.of(1, 4) == 0 ? t.bed(1) : t.up(1)), t -> t.day(1), t -> t.years(0, 1)};
        for (int k = 0; k < kinds.length; k++) {
            for (int n = 29; n <= 31; n++) {
                TollsForLate x = Edge.three();
                x.ring(2);
                for (int i = 0; i < n; i++) {
                    kinds[k].on(x);
                }
                Edge.due("about(3) of kind " + k, x.about(3), 30);
                for (int left = 29; left >= 0; left--) {
                    Edge.due("undo() of kind " + k, x.undo(), left);
                }
                Edge.due("undo() of kind " + k, x.undo(), -1);
                // The one ahead of all, RUNG, can be taken back behind 29 others alone.
                Edge.due("is(1) behind " + n + " of kind " + k, x.is(1) == 0, n == 29);
            }
        }
        TollsForLate y = Edge.three();
        y.day(30);
        Edge.due("about(3)", y.about(3), 30);
        y.ring(1);
        Edge.due("about(3)", y.about(3), 30);
        Edge.due("undo()", y.undo(), 29);
        y.ring(1);
        y.ring(2);
        Edge.due("about(3)", y.about(3), 30);
        for (int i = 0; i < 30; i++) {
            y.undo();
        }
        Edge.due("is(0)", y.is(0), 2);
    }

    private static void noSteps() {
        Edge.of("STEPS: RUNG, PUT OFF, IN BED, UP, a DAY (each), YEARS (see V)");
        TollsForLate x = Edge.three();
        x.hears(0, 1, false);
        Edge.write(x, "takes 1;");
        x.by(0);
        x.heard(0, true);
        x.said(0, 1);
        x.image();
        x.back();
        Edge.due("about(3)", x.about(3), 0);
        Edge.due("undo()", x.undo(), -1);
        Edge.due("about(0)", x.about(0), 3);
        Edge.due("of(0, 8)", x.of(0, 8), 253);
        Edge.due("about(2)", x.about(2), 0);
    }

    private static void asAhead() {
        Edge.of("(RINGS, DUES, who is IN BED, how often LATE, WEATHER, DAY, X, BOOK are as ahead of it; "
                + "PERSONS told since are as told; what each HEARS stays)");
        TollsForLate x = Edge.three();
        TollsForLate y = Edge.three();
        x.day(29);
        y.day(29);
        x.years(5, 40);
        Edge.due("undo()", x.undo(), 29);
        Edge.alike("as ahead of YEARS", x, y);
        TollsForLate z = Edge.three();
        z.ring(1);
        z.person(3, 9, 8, 77);
        z.due(3, 78);
        z.bed(3);
        z.day(1);
        z.hears(3, 0, false);
        for (int i = 0; i < 4; i++) {
            z.undo();
        }
        Edge.due("of(3, 3)", z.of(3, 3), 77);
        Edge.due("of(3, 4)", z.of(3, 4), 0);
        Edge.due("of(3, 5)", z.of(3, 5), 0);
        Edge.due("of(3, 8), which stays", z.of(3, 8), 254);
        Edge.due("is(1)", z.is(1), 0);
        toldBehindThirty();
    }

    /** Told when 30 STEPS can be taken back: in each of them it is as told. */
    private static void toldBehindThirty() {
        TollsForLate x = Edge.people(1);
        x.day(31);
        for (int p = 1; p < 8; p++) {
            x.person(0, 1, 1, 90 + p);
        }
        for (int left = 29; left >= 0; left--) {
            x.undo();
            Edge.due("of(7, 3)", x.of(7, 3), 97);
            Edge.due("of(1, 3)", x.of(1, 3), 91);
        }
        Edge.due("is(0)", x.is(0), 1);
        Edge.due("of(0, 5)", x.of(0, 5), 1);
        Edge.due("of(7, 5)", x.of(7, 5), 0);
    }

    private static void undo() {
        Edge.of(16, "The latest STEP is taken back: how many can be yet.");
        TollsForLate x = Edge.three();
        x.ring(7);
        Edge.due("undo() of one", x.undo(), 0);
        Edge.due("is(1)", x.is(1), 0);
        x.day(60);
        Edge.due("undo() of thirty", x.undo(), 29);
        Edge.due("is(0)", x.is(0), 59);
        Edge.of(16, "NONE: there is none.");
        Edge.refused("undo() of none", TollsForLate::new, t -> t.undo(), -1);
        Edge.refused("undo() of none", Edge::three, t -> t.undo(), -1);
        Edge.Recipe allBack = () -> {
            TollsForLate t = Edge.three();
            t.day(60);
            for (int i = 0; i < 30; i++) {
                t.undo();
            }
            return t;
        };
        Edge.refused("undo() behind thirty", allBack, t -> t.undo(), -1);
        Edge.due("is(0)", allBack.town().is(0), 30);
    }

    // ---- what is so ----

    private static void ofOne() {
        Edge.of(17, "Of a PERSON: 0 ROAD, 1 WALK, 2 RUN, 3 DUE, 4 whether it is IN BED (1, 0), "
                + "5 how often it was LATE, 6 runs now (1, 0), 7 takes now, 8 HEARS (bits).");
        TollsForLate x = Edge.people(7);
        x.person(3, 99, 98, 97);
        int[] first = {0, 1, 1, 0, 0, 0, 0, 1, 255};
        int[] last = {3, 99, 98, 97, 0, 0, 0, 99, 255};
        for (int what = 0; what < 9; what++) {
            Edge.due("of(0, " + what + ")", x.of(0, what), first[what]);
            Edge.due("of(7, " + what + ")", x.of(7, what), last[what]);
        }
        x.ring(128);
        Edge.due("of(7, 6)", x.of(7, 6), 1);
        Edge.due("of(7, 7)", x.of(7, 7), 98);
        x.bed(7);
        Edge.due("of(7, 6) in bed", x.of(7, 6), 0);
        Edge.due("of(7, 7) in bed", x.of(7, 7), 99);
        Edge.due("of(7, 4)", x.of(7, 4), 1);
        Edge.of(17, "NONE for others.");
        Edge.refused("of(3, 0) of three", Edge::busy, t -> t.of(3, 0), -1);
        Edge.refused("of(-1, 0)", Edge::busy, t -> t.of(-1, 0), -1);
        Edge.refused("of(0, 9)", Edge::busy, t -> t.of(0, 9), -1);
        Edge.refused("of(0, -1)", Edge::busy, t -> t.of(0, -1), -1);
        Edge.refused("of(8, 7) of eight", Edge::full, t -> t.of(8, 7), -1);
        Edge.refused("of(0, 0) of nobody", TollsForLate::new, t -> t.of(0, 0), -1);
        for (int far : FAR) {
            Edge.due("of(" + far + ", 7)", Edge.full().of(far, 7), -1);
            Edge.due("of(7, " + far + ")", Edge.full().of(7, far), -1);
        }
    }

    private static void isAndAbout() {
        Edge.of(18, "0 DAY, 1 RINGS (bits), 2 WEATHER, 3 X.");
        TollsForLate x = Edge.mirror(8);
        Edge.toDay(x, 9999);
        int drawn = 229;
        for (int i = 0; i < 9998; i++) {
            drawn = anew(drawn);
        }
        Edge.due("is(0)", x.is(0), 9999);
        Edge.due("is(1)", x.is(1), 255);
        Edge.due("is(2)", x.is(2), drawn % 10);
        Edge.due("is(3)", x.is(3), anew(drawn));
        Edge.of(57, "0 PERSONS, 1 TEXTS, 2 THE TEXT (NONE), 3 STEPS that can be taken back, 4 HEARD, "
                + "5 SAID, 6 bytes of the tape.");
        int[] nothing = {0, 0, -1, 0, 0, 0, 0};
        int[] most = {8, 4, 3, 30, 8, 8, 300};
        TollsForLate nobody = new TollsForLate();
        TollsForLate full = Edge.full();
        for (int what = 0; what < 7; what++) {
            Edge.due("about(" + what + ") of nothing", nobody.about(what), nothing[what]);
            Edge.due("about(" + what + ") of all", full.about(what), most[what]);
        }
        full.by(-1);
        Edge.due("about(2)", full.about(2), -1);
        for (int other : new int[] {-1, 4, 7, -2, Integer.MIN_VALUE, Integer.MAX_VALUE}) {
            Edge.of(18, "-2 for others.");
            Edge.refused("is(" + other + ")", Edge::busy, t -> t.is(other), -2);
            Edge.of(57, "-2 for others.");
            if (other != 4) {
                Edge.refused("about(" + other + ")", Edge::busy, t -> t.about(other), -2);
            }
        }
    }

    static void all() {
        personsOneByOne();
        roadWalkRunDue();
        atFirstUp();
        howOftenLate();
        atFirstHearsAll();
        atFirst();
        newObject();
        person();
        hears();
        ring();
        due();
        bedAndUp();
        runsAndLate();
        aDay();
        none9999();
        day();
        book();
        thirtySteps();
        noSteps();
        asAhead();
        undo();
        ofOne();
        isAndAbout();
    }
}
