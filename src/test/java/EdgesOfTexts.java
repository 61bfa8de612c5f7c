/** Boundary cases of part II, the tape, the texts and what they say: promises 4 to 8 and 14. */
final class EdgesOfTexts {
    private static final int[] FAR = {Integer.MIN_VALUE, Integer.MAX_VALUE, 1 << 30, -65536, 65536};

    private EdgesOfTexts() {
    }

    // ---- the tape ----

    private static TollsForLate tapeOf(int bytes) {
        TollsForLate x = Edge.three();
        Edge.load(x, "up 0;".repeat(60));
        x.end(bytes);
        return x;
    }

    private static void feed() {
        Edge.of(4, "Twenty bytes come behind the tape, the highest of a first: how many it has.");
        Edge.due("feed, first", new TollsForLate().feed(0, 0, 0, 0, 0), 20);
        TollsForLate x = tapeOf(280);
        Edge.due("feed, last", x.feed(1, 1, 1, 1, 1), 300);
        TollsForLate y = tapeOf(5);
        // "bed 1;" and fourteen blanks; the last of e is a byte above 127.
        Edge.due("feed", y.feed(0x62656420, 0x313b2020, 0x20202020, 0x20202020, 0x202020ff), 25);
        Edge.due("text()", y.text(), -1);
        Edge.due("fault(1)", y.fault(1), 24);
        for (int at = 0; at < 20; at++) {
            int[] w = {0x20202020, 0x20202020, 0x20202020, 0x20202020, 0x20202020};
            w[at / 4] = w[at / 4] & ~(255 << 24 - at % 4 * 8) | 0x80 << 24 - at % 4 * 8;
            TollsForLate z = new TollsForLate();
            z.feed(w[0], w[1], w[2], w[3], w[4]);
            Edge.due("text()", z.text(), -1);
            Edge.due("fault(1) of byte " + at, z.fault(1), at);
        }
        Edge.of(4, "NONE, and none come, if there would be more than 300.");
        for (int n : new int[] {281, 290, 299, 300}) {
            Edge.refused("feed behind " + n, () -> tapeOf(n), t -> t.feed(1, 2, 3, 4, 5), -1);
        }
        Edge.refused("feed behind 300", Edge::full, t -> t.feed(0, 0, 0, 0, 0), -1);
    }

    private static void end() {
        Edge.of(5, "The tape has its first n bytes alone: n.");
        Edge.due("end(0) of nothing", new TollsForLate().end(0), 0);
        for (int n : new int[] {0, 1, 299, 300}) {
            TollsForLate x = tapeOf(300);
            Edge.due("end(" + n + ")", x.end(n), n);
            Edge.due("about(6)", x.about(6), n);
            Edge.due("end(" + (n + 1) + ")", x.end(n + 1), -1);
        }
        TollsForLate y = tapeOf(300);
        y.end(5);
        Edge.due("text() of the first five", y.text(), 0);
        TollsForLate z = tapeOf(300);
        z.end(4);
        Edge.due("text() of the first four", z.text(), -1);
        Edge.due("fault(1)", z.fault(1), 4);
        Edge.of(5, "NONE, and nothing is done, if it has not so many, or n is below 0.");
        Edge.refused("end(1) of nothing", TollsForLate::new, t -> t.end(1), -1);
        Edge.refused("end(-1) of nothing", TollsForLate::new, t -> t.end(-1), -1);
        Edge.refused("end(17) of 16", Edge::busy, t -> t.end(17), -1);
        Edge.refused("end(-1)", Edge::busy, t -> t.end(-1), -1);
        Edge.refused("end(301) of 300", Edge::full, t -> t.end(301), -1);
        for (int far : FAR) {
            Edge.refused("end(" + far + ")", Edge::full, t -> t.end(far), -1);
        }
    }

    // ---- TEXTS ----

    private static void texts() {
        Edge.of("TEXTS 0 .. 3: of up to 300 bytes.");
        TollsForLate x = Edge.three();
        for (int t = 0; t < 4; t++) {
            Edge.due("by(" + t + ") ahead of it", x.by(t), false);
            Edge.due("text " + t, Edge.write(x, "takes " + t + ";"), t);
            Edge.due("by(" + t + ")", x.by(t), true);
            Edge.due("of(0, 7)", x.of(0, 7), t);
        }
        Edge.due("text 4", Edge.write(x, "takes 4;"), -1);
        Edge.due("by(4)", x.by(4), false);
        x.by(0);
        Edge.due("of(0, 7), as at first", x.of(0, 7), 0);
        TollsForLate y = Edge.ruled(1, "takes 7" + "+1".repeat(145) + "; ");
        Edge.due("of(0, 7) by 300 bytes", y.of(0, 7), 152);
        Edge.stands(" ".repeat(299) + "\n");
        Edge.stands("");
        Edge.of(6, "The tape (empty then) is a TEXT: its number.");
        TollsForLate z = new TollsForLate();
        for (int t = 0; t < 4; t++) {
            Edge.load(z, "up " + t + ";");
            Edge.due("text()", z.text(), t);
            Edge.due("about(6)", z.about(6), 0);
            Edge.due("about(1)", z.about(1), t + 1);
        }
        TollsForLate empty = new TollsForLate();
        Edge.due("text() of nothing", empty.text(), 0);
        Edge.due("played(0)", empty.played(0), -1);
    }

    private static void noText() {
        Edge.of(6, "NONE: it has a FAULT; or (the tape stays) there are 4.");
        TollsForLate x = Edge.busy();
        Edge.due("text() with a FAULT", x.text(), -1);
        Edge.due("fault(0)", x.fault(0), 4);
        Edge.due("fault(1)", x.fault(1), 8);
        Edge.due("about(6)", x.about(6), 0);
        Edge.due("about(1)", x.about(1), 2);
        Edge.due("by(2)", x.by(2), false);
        Edge.refused("the fifth", Edge::full, t -> t.text(), -1);
        Edge.Recipe faulty = () -> {
            TollsForLate t = Edge.full();
            Edge.load(t, "nothing such");
            return t;
        };
        Edge.refused("the fifth, with a FAULT", faulty, t -> t.text(), -1);
        TollsForLate y = faulty.town();
        y.text();
        Edge.due("about(6)", y.about(6), 12);
        Edge.due("fault(0)", y.fault(0), 0);
    }

    /** What was read up to a FAULT leaves nothing behind, however long and often it was. */
    private static void behindFaults() {
        Edge.of(6, "NONE: it has a FAULT; or (the tape stays) there are 4.");
        TollsForLate x = Edge.people(1);
        for (int i = 0; i < 5; i++) {
            Edge.due("text() with a FAULT", Edge.write(x, "runs 1;takes 1" + "+1".repeat(130) + ";!"), -1);
            Edge.due("text() with a FAULT", Edge.write(x, "bed 0;".repeat(24) + "!"), -1);
        }
        Edge.due("text()", Edge.write(x, "takes 1" + "+1".repeat(140) + ";"), 0);
        Edge.due("played(0)", x.played(0), -1);
        Edge.due("of(0, 4)", x.of(0, 4), 0);
        x.by(0);
        Edge.due("of(0, 6)", x.of(0, 6), 0);
        Edge.due("of(0, 7)", x.of(0, 7), 141);
        Edge.due("text()", Edge.write(x, ""), 1);
        x.by(1);
        Edge.due("of(0, 7) without laws", x.of(0, 7), 1);
    }

    private static void fault() {
        Edge.of(7, "Of the latest text that was read: 0 its FAULT (0 without), 1 its place (NONE without).");
        TollsForLate x = new TollsForLate();
        Edge.write(x, "");
        Edge.due("fault(0)", x.fault(0), 0);
        Edge.due("fault(1)", x.fault(1), -1);
        Edge.write(x, "!");
        Edge.due("fault(0)", x.fault(0), 1);
        Edge.due("fault(1)", x.fault(1), 0);
        Edge.write(x, "up 0;".repeat(25));
        Edge.due("fault(0)", x.fault(0), 6);
        Edge.due("fault(1)", x.fault(1), 120);
        Edge.write(x, "takes 1" + "+1".repeat(146));
        Edge.due("fault(0)", x.fault(0), 1);
        Edge.due("fault(1)", x.fault(1), 299);
        Edge.write(x, "takes 1" + "+1".repeat(146) + " ");
        Edge.due("fault(1) of the end", x.fault(1), 300);
        Edge.write(x, "up 7;");
        Edge.due("fault(0)", x.fault(0), 0);
        Edge.due("fault(1)", x.fault(1), -1);
        Edge.of(7, "NONE for others, and ahead of any.");
        for (int what : new int[] {0, 1, 2, -1}) {
            Edge.refused("fault ahead of any", Edge::three, t -> t.fault(what), -1);
        }
        for (int what : new int[] {2, -1, -2, Integer.MIN_VALUE, Integer.MAX_VALUE}) {
            Edge.refused("fault(" + what + ")", Edge::busy, t -> t.fault(what), -1);
        }
    }

    private static void by() {
        Edge.of("THE TEXT (told; at first none) rules.");
        TollsForLate x = Edge.three();
        Edge.write(x, "takes 5;");
        Edge.due("about(2)", x.about(2), -1);
        Edge.due("of(0, 7) by none", x.of(0, 7), 20);
        Edge.of(8, "THE TEXT (NONE: none): true.");
        Edge.due("by(-1), at first", new TollsForLate().by(-1), true);
        Edge.due("by(0)", x.by(0), true);
        Edge.due("of(0, 7)", x.of(0, 7), 5);
        Edge.due("by(0) again", x.by(0), true);
        Edge.due("by(-1)", x.by(-1), true);
        Edge.due("about(2)", x.about(2), -1);
        Edge.due("of(0, 7)", x.of(0, 7), 20);
        Edge.due("by(3) of four", Edge.full().by(3), true);
        Edge.of(8, "False for others.");
        Edge.refused("by(0) of none", Edge::three, t -> Edge.bit(t.by(0)), 0);
        Edge.refused("by(2) of two", Edge::busy, t -> Edge.bit(t.by(2)), 0);
        Edge.refused("by(3) of two", Edge::busy, t -> Edge.bit(t.by(3)), 0);
        Edge.refused("by(-2)", Edge::busy, t -> Edge.bit(t.by(-2)), 0);
        Edge.refused("by(4) of four", Edge::full, t -> Edge.bit(t.by(4)), 0);
        for (int far : FAR) {
            Edge.refused("by(" + far + ")", Edge::full, t -> Edge.bit(t.by(far)), 0);
        }
    }

    // ---- TOKENS ----

    private static void bytes() {
        Edge.of("TOKENS, blanks (32, 10) aside");
        for (int b = 0; b < 256; b++) {
            String text = "up" + (char) b + "0;";
            boolean blank = b == 32 || b == 10;
            boolean digit = b >= '0' && b <= '9';
            boolean letter = b >= 'a' && b <= 'z' || b >= 'A' && b <= 'Z';
            if (blank || b == '0') {
                Edge.stands(text);
            } else {
                Edge.reads(text, digit ? 2 : 1, letter ? 0 : 2);
            }
        }
        Edge.of("letters a .. z, A .. Z one behind the other (one TOKEN)");
        for (char c : "azAZ".toCharArray()) {
            Edge.reads("up" + c + " 0;", 1, 0);
            Edge.reads(c + "up 0;", 1, 0);
            Edge.reads("takes " + c + ";", 1, 6);
        }
        for (char c : "`{@[".toCharArray()) {
            Edge.reads("up" + c + " 0;", 1, 2);
            Edge.reads(c + "up 0;", 1, 0);
        }
        Edge.reads("UP 0;", 1, 0);
        Edge.reads("u", 1, 0);
        Edge.reads("takes wal;", 1, 6);
        Edge.reads("takes walks;", 1, 6);
        Edge.reads("takes " + "walk".repeat(70) + ";", 1, 6);
        Edge.reads("z".repeat(300), 1, 0);
        Edge.of("<= >= < > = # + - * / ( ) ; (the longest)");
        Edge.stands("runs if 1<=1 then 1 else 1 end;");
        Edge.stands("runs if 1>=1 then 1 else 1 end;");
        Edge.stands("runs if 1< -1 then 1 else 1 end;");
        Edge.reads("runs if 1< =1 then 1 else 1 end;", 1, 11);
        Edge.reads("runs if 1> =1 then 1 else 1 end;", 1, 11);
        Edge.reads("runs if 1<==1 then 1 else 1 end;", 1, 11);
        Edge.reads("runs if 1=<1 then 1 else 1 end;", 1, 10);
        Edge.reads("runs if 1<>1 then 1 else 1 end;", 1, 10);
        Edge.reads("runs if 1##1 then 1 else 1 end;", 1, 10);
        Edge.reads("runs if 1<", 1, 10);
        // The byte behind the tape's end is not of it.
        TollsForLate x = new TollsForLate();
        Edge.load(x, "runs if 1<=1");
        x.end(10);
        Edge.due("text()", x.text(), -1);
        Edge.due("fault(1) of the end", x.fault(1), 10);
    }

    private static void numbers() {
        Edge.of("digits likewise (NUMBERS, 0 .. 9999)");
        Edge.due("0", Edge.value("0"), 0);
        Edge.due("0000000001", Edge.value("0000000001"), 1);
        Edge.due("9999", Edge.value("9999/11"), 909);
        Edge.due("0009999", Edge.value("0009999/11"), 909);
        Edge.stands("runs " + "0".repeat(294) + ";");
        Edge.reads("runs 10000;", 2, 5);
        Edge.reads("runs 010000;", 2, 5);
        Edge.reads("runs 99999;", 2, 5);
        Edge.reads("runs 4294967296;", 2, 5);
        Edge.reads("runs 4294967297;", 2, 5);
        Edge.reads("runs 18446744073709551616;", 2, 5);
        Edge.reads("runs " + "9".repeat(294) + ";", 2, 5);
        Edge.reads("runs 1" + "0".repeat(293) + ";", 2, 5);
        Edge.reads("runs 99 99;", 1, 8);
        Edge.reads("runs 9/;", 1, 7);
        Edge.reads("runs 9:;", 1, 6);
    }

    /** What stands behind the tape's end is not of it, whether there is room for it or not. */
    private static void tapeEnds() {
        Edge.of("TEXTS 0 .. 3: of up to 300 bytes.");
        for (String start : new String[] {"runs", "ring", "up", "day"}) {
            endsWith("", start, true);
            endsWith("", start.substring(0, 1), false);
        }
        for (String one : new String[] {"run", "day", "(", "-", "1", "9999", "who"}) {
            endsWith("takes 1+", one, true);
        }
        for (String other : new String[] {"r", "wal", "<", ">", "+", ";", "!"}) {
            endsWith("takes 1+", other, false);
        }
        Edge.stands(" ".repeat(295) + "up 7;");
        cutOff("takes 99999;", 10, 1, 10);
        cutOff("takes 10000;", 10, 1, 10);
        cutOff("takes 10000;", 11, 2, 6);
        cutOff("day 600;", 6, 1, 6);
        cutOff("day 600;", 7, 2, 4);
        cutOff("ringup 1;", 4, 1, 4);
        cutOff("ringup 1;", 5, 1, 0);
        cutOff("up 0;up 8;", 5, 0, -1);
        cutOff("up 0;up 8;", 9, 2, 8);
    }

    /** A tape of 300 bytes: where its last TOKEN can stand, the FAULT is that of the end. */
    private static void endsWith(String text, String last, boolean can) {
        int behind = text.length() + last.length();
        Edge.reads(" ".repeat(300 - behind) + text + last, 1, can ? 300 : 300 - last.length());
    }

    private static void cutOff(String tape, int length, int fault, int place) {
        TollsForLate x = new TollsForLate();
        Edge.load(x, tape);
        x.end(length);
        String what = " of '" + tape + "' up to " + length;
        Edge.due("text()" + what, x.text(), fault == 0 ? 0 : -1);
        Edge.due("fault(0)" + what, x.fault(0), fault);
        Edge.due("fault(1)" + what, x.fault(1), place);
    }

    // ---- CLAUSES ----

    private static void clauses() {
        Edge.of("{CLAUSE}, 24 at most");
        Edge.stands("");
        Edge.stands("up 0;");
        Edge.stands("up 0;".repeat(23));
        Edge.stands("up 0;".repeat(24));
        Edge.reads("up 0;".repeat(25), 6, 120);
        Edge.stands("runs 1;takes 1;" + "up 0;".repeat(22));
        Edge.reads("runs 1;takes 1;" + "up 0;".repeat(23), 6, 125);
        TollsForLate x = Edge.people(8);
        Edge.write(x, "bed 0;up 0;".repeat(11) + "bed 0;bed 1;");
        Edge.due("played(0) of 24", x.played(0), -1);
        Edge.due("of(1, 4)", x.of(1, 4), 1);
        Edge.due("about(3)", x.about(3), 24);
        Edge.of("runs SUM ; or takes SUM ; (each once)");
        Edge.stands("takes 1;runs 1;");
        Edge.reads("takes 1;runs 1;takes 1;", 4, 15);
        Edge.of("person NUMBER walk NUMBER run NUMBER due NUMBER ; (ROAD)");
        Edge.stands("person 0 walk 1 run 1 due 0;");
        Edge.stands("person 3 walk 99 run 99 due 99;");
        Edge.reads("person 3 walk 99 run 99 due 99", 1, 30);
        Edge.reads("person 3 walk 99 run 99;", 1, 23);
        Edge.of("ring NUMBER ; (RINGS, 0 .. 255)");
        Edge.stands("ring 0;ring 255;");
        Edge.reads("ring 256;", 2, 5);
        Edge.reads("ring;", 1, 4);
        Edge.of("due NUMBER of NUMBER ; (DUE, PERSON)");
        Edge.stands("due 99 of 7;due 0 of 0;");
        Edge.reads("due 7 of 99;", 2, 9);
        Edge.reads("due 7;", 1, 5);
        Edge.of("bed NUMBER ; or up NUMBER ; or day NUMBER ;.");
        Edge.stands("bed 0;bed 7;up 0;up 7;day 1;day 60;");
        Edge.reads("bed 0;bed", 1, 9);
        Edge.reads("up 0;up;", 1, 7);
        Edge.reads("day 1;day -1;", 1, 10);
    }

    private static void sums() {
        Edge.of("SUM: PRODUCT {+ or - PRODUCT}.");
        Edge.due("1", Edge.value("1"), 1);
        Edge.due("9-3-2+1", Edge.value("9-3-2+1"), 5);
        Edge.due("2+3*4-1", Edge.value("2+3*4-1"), 13);
        Edge.due("141 of them", Edge.value("1" + "+1".repeat(140)), 141);
        Edge.reads("runs 1+;", 1, 7);
        Edge.reads("runs +1;", 1, 5);
        Edge.of("PRODUCT: ONE {* or / ONE}.");
        Edge.due("9/3/2*5", Edge.value("9/3/2*5"), 5);
        Edge.due("141 of them", Edge.value("7" + "*1".repeat(140)), 7);
        Edge.reads("runs 1*;", 1, 7);
        Edge.reads("runs /1;", 1, 5);
        Edge.of("rings ONE (1, if RINGS that are asked for are for the PERSON of that number, else 0)");
        int[] numbers = {0, 7, 8, 9, 15, 16, 31, 32, 33, 39, 40, 64, 256, 9999};
        for (int n : numbers) {
            TollsForLate x = Edge.ruled(8, "takes rings " + n + ";");
            Edge.due("late(255) by rings " + n, x.late(255), n < 8 ? 255 : 0);
            Edge.due("late(0) by rings " + n, x.late(0), 0);
            Edge.due("late(254) by rings " + n, x.late(254), n == 7 ? 255 : 0);
            TollsForLate y = Edge.ruled(8, "takes rings -" + n + ";");
            Edge.due("late(255) by rings -" + n, y.late(255), n == 0 ? 255 : 0);
        }
        Edge.due("rings of the most", Edge.ruled(8, "takes rings(9999*9999);").late(255), 0);
        Edge.due("rings of the least", Edge.ruled(8, "takes rings(-9999*9999);").late(255), 0);
        Edge.due("rings of one not told", Edge.ruled(7, "takes rings 7;").late(127), 0);
    }

    private static void asks() {
        Edge.of("if EITHER then SUM else SUM end.");
        Edge.due("then", Edge.value("if 1=1 then 5 else 6 end"), 5);
        Edge.due("else", Edge.value("if 1=2 then 5 else 6 end"), 6);
        Edge.reads("runs if 1=1 then 5 end;", 1, 19);
        Edge.reads("runs if 1=1 then 5 else 6;", 1, 25);
        Edge.of("EITHER: BOTH {or or xor BOTH} (from the left).");
        Edge.holds("1=1 or 1=1 xor 1=1", false);
        Edge.holds("1=1 xor 1=1 or 1=1", true);
        Edge.holds("1=2 or 1=2", false);
        Edge.holds("1=2 or 1=1", true);
        Edge.holds("1=1 xor 1=2", true);
        Edge.holds("1=1 xor 1=1", false);
        Edge.of("BOTH: ASK {and ASK}.");
        Edge.holds("1=1", true);
        Edge.holds("1=1 and 2=2 and 3=3", true);
        Edge.holds("1=1 and 2=2 and 3=4", false);
        Edge.holds("1=1 or 1=1 and 1=2", true);
        Edge.of("ASK: not ASK, or SUM one of < <= > >= = # (unlike) SUM.");
        String[] signs = {"<", "<=", ">", ">=", "=", "#"};
        for (int side = -1; side <= 1; side++) {
            boolean[] is = {side < 0, side <= 0, side > 0, side >= 0, side == 0, side != 0};
            for (int i = 0; i < signs.length; i++) {
                Edge.holds(5 + side + signs[i] + "5", is[i]);
                Edge.holds("not " + (5 + side) + signs[i] + "5", !is[i]);
                Edge.holds("9999*9999-1+" + (1 + side) + signs[i] + "9999*9999",
                        new boolean[] {side < 0, true, false, side >= 0, side >= 0, side < 0}[i]);
            }
        }
        joinedAsks();
        Edge.reads("runs if 1 then 1 else 1 end;", 1, 10);
        Edge.reads("runs if 1=1=1 then 1 else 1 end;", 1, 11);
        Edge.of("or, xor, and look at both sides always, of if just the SUM that is chosen is asked.");
        Edge.holds("1=1 or 1/0=1", true);
        Edge.holds("1=2 and 1/0=0", false);
        Edge.holds("1/0=0 and 1=1 xor 1/0=1", true);
        Edge.due("then alone", Edge.value("if 1=1 then 7 else 9999*9999*9999 end+1"), 8);
        Edge.due("else alone", Edge.value("if 1=2 then 9999*9999*9999 else 7 end+1"), 8);
        Edge.due("if in if", Edge.value("if 1=2 then if 1=1 then 1 else 2 end else"
                + " if 1=2 then 3 else 4 end end"), 4);
    }

    /** What one kind of ASK says is joined with what each other kind says. */
    private static void joinedAsks() {
        String[] so = {"1<2", "1<=1", "2>1", "1>=1", "1=1", "1#2", "not 1=2", "not 1<1", "not not 1#0"};
        String[] not = {"1<1", "2<=1", "1>1", "1>=2", "1=2", "1#1", "not 1=1", "not 1<2", "not not 1#1"};
        for (int i = 0; i < so.length; i++) {
            for (int j = 0; j < so.length; j++) {
                Edge.holds(so[i] + " and " + so[j], true);
                Edge.holds(so[i] + " and " + not[j], false);
                Edge.holds(not[i] + " and " + so[j], false);
                Edge.holds(so[i] + " xor " + so[j], false);
                Edge.holds(so[i] + " xor " + not[j], true);
                Edge.holds(not[i] + " xor " + not[j], false);
                Edge.holds(not[i] + " or " + so[j], true);
                Edge.holds(so[i] + " or " + not[j], true);
                Edge.holds(not[i] + " or " + not[j], false);
            }
        }
    }

    // ---- NAMES ----

    private static void names() {
        Edge.of("NAMES: day, weather, who (the number), road, walk, run, due in both");
        String both = "day+weather+who+road+walk+run+due";
        Edge.stands("runs " + both + ";takes " + both + ";");
        TollsForLate x = new TollsForLate();
        for (int p = 0; p < 8; p++) {
            x.person(p / 2, p == 0 ? 1 : 99, p == 0 ? 99 : 1, p == 0 ? 0 : 99);
        }
        TollsForLate who = Edge.ruled(8, "runs if who=7 then 1 else 0 end;");
        Edge.due("runners(0), the last", who.runners(0), 128);
        Edge.due("runners(0), all but the first", Edge.ruled(8, "runs who;").runners(0), 254);
        String[] laws = {"who", "road", "walk", "run"};
        int[] first = {0, 0, 1, 99};
        int[] last = {7, 3, 99, 1};
        for (int i = 0; i < 4; i++) {
            Edge.write(x, "takes " + laws[i] + ";");
            x.by(i);
            Edge.due("of(0, 7) by " + laws[i], x.of(0, 7), first[i]);
            Edge.due("of(7, 7) by " + laws[i], x.of(7, 7), last[i]);
        }
        TollsForLate y = Edge.ruled(1, "takes due;");
        Edge.due("due 0", y.of(0, 7), 0);
        y.due(0, 99);
        Edge.due("due 99", y.of(0, 7), 99);
        TollsForLate z = Edge.ruled(1, "takes day-9900;");
        Edge.toDay(z, 9999);
        Edge.due("day 9999", z.of(0, 7), 99);
        Edge.of("heard (for how many it rings that it HEARS) in runs");
        for (int more = 0; more < 9; more++) {
            TollsForLate h = Edge.ruled(8, "runs heard-" + more + ";");
            Edge.due("runners(255) by heard-" + more, h.runners(255), more < 8 ? 255 : 0);
            Edge.due("runners(0) by heard-" + more, h.runners(0), 0);
            h.hears(3, 5, false);
            Edge.due("runners(255), one of which hears seven", h.runners(255),
                    more < 7 ? 255 : more < 8 ? 247 : 0);
        }
        Edge.of("fast (1, if it runs, else 0), jam (how many others on its ROAD run) in takes");
        TollsForLate f = Edge.ruled(8, "takes fast*10+jam;");
        Edge.due("of(0, 7), nobody runs", f.of(0, 7), 0);
        f.ring(1);
        Edge.due("of(0, 7), all run", f.of(0, 7), 17);
        for (int p = 7; p > 0; p--) {
            f.bed(p);
            Edge.due("of(0, 7), less run", f.of(0, 7), 9 + p);
        }
        Edge.due("of(7, 7), in bed", f.of(7, 7), 1);
        f.bed(0);
        Edge.due("of(0, 7), none runs", f.of(0, 7), 0);
    }

    // ---- reckoning ----

    private static void reckoning() {
        Edge.of("From the left; / cuts towards 0, by 0 it is 0");
        Edge.due("99/100", Edge.value("99/100"), 0);
        Edge.due("100/100", Edge.value("100/100"), 1);
        Edge.due("101/100", Edge.value("101/100"), 1);
        Edge.due("5+-1/2", Edge.value("5+-1/2"), 5);
        Edge.due("5+-2/2", Edge.value("5+-2/2"), 4);
        Edge.due("5+-3/2", Edge.value("5+-3/2"), 4);
        Edge.due("5+3/-2", Edge.value("5+3/-2"), 4);
        Edge.due("5+-3/-2", Edge.value("5+-3/-2"), 6);
        Edge.due("5+1/0", Edge.value("5+1/0"), 5);
        Edge.due("5+0/0", Edge.value("5+0/0"), 5);
        Edge.due("5+-1/0", Edge.value("5+-1/0"), 5);
        Edge.due("5+9999*9999/(1-1)", Edge.value("5+9999*9999/(1-1)"), 5);
        Edge.due("5/-1+10", Edge.value("5/-1+10"), 5);
        Edge.of("what is above 1000000 (below the same less) is that, at each step.");
        String most = "(1000*1000)";
        Edge.due("999999 stays", Edge.value("1000*1000-1-999*1001"), 0);
        Edge.due("999999+1 stays", Edge.value("999*1001+1-999*1001"), 1);
        Edge.due("999999+2 is one less", Edge.value("999*1001+2-999*1001"), 1);
        Edge.due("1000000+1", Edge.value(most + "+1-999*1001"), 1);
        Edge.due("1000000+1000000", Edge.value(most + "+" + most + "-999*1001"), 1);
        Edge.due("1000000*1", Edge.value(most + "*1-999*1001"), 1);
        Edge.due("1000*1001", Edge.value("1000*1001-999*1001"), 1);
        Edge.due("1000000*1000000", Edge.value(most + "*" + most + "-999*1001"), 1);
        Edge.due("1000000--1", Edge.value(most + "--1-999*1001"), 1);
        Edge.due("-999999-1", Edge.value("-999*1001-1+999*1001+2"), 1);
        Edge.due("-999999-2", Edge.value("-999*1001-2+999*1001+2"), 1);
        Edge.due("-1000000-1", Edge.value("-" + most + "-1+999*1001+2"), 1);
        Edge.due("-1000000*2", Edge.value("-" + most + "*2+999*1001+2"), 1);
        Edge.due("-1000000*1000000", Edge.value("-" + most + "*" + most + "+999*1001+2"), 1);
        Edge.due("-1000*1001", Edge.value("-1000*1001+999*1001+2"), 1);
        Edge.due("-1000000*-1000000", Edge.value("-" + most + "*-" + most + "-999*1001"), 1);
        Edge.due("-1000000/-1", Edge.value("-" + most + "/-1-999*1001"), 1);
        Edge.due("-(-1000000)", Edge.value("-(-" + most + ")-999*1001"), 1);
        Edge.due("at each step, then /", Edge.value("9999*9999*9999/9999"), 100);
        Edge.due("at each step, not at the end", Edge.value(most + "+" + most + "-" + most + "-999*1001"), 0);
        Edge.holds(most + "+1=" + most, true);
        Edge.holds("-" + most + "-1=-" + most, true);
        Edge.holds(most + "-1=" + most, false);
        TollsForLate x = Edge.ruled(1, "runs 1000*1000+1-1000*1000;");
        Edge.due("in runs, too", x.runners(0), 0);
    }

    // ---- FAULTS ----

    private static void cantStand() {
        Edge.of("FAULTS, the first as TOKENS are come to, at the TOKEN's first byte "
                + "(of the end at the length), of one the least: 1 it can't stand there, or is none.");
        Edge.reads("up 8;down 9;", 2, 3);
        Edge.reads("up 7;down 8;", 1, 5);
        Edge.reads("  down", 1, 2);
        Edge.reads("up", 1, 2);
        Edge.reads("up  ", 1, 4);
        Edge.reads("up 0", 1, 4);
        Edge.reads("up 0 \n ", 1, 7);
        Edge.reads(" ".repeat(298) + "up", 1, 300);
        Edge.reads(";", 1, 0);
        Edge.reads(";".repeat(300), 1, 0);
        Edge.reads("(".repeat(300), 1, 0);
        Edge.reads("up 0;;", 1, 5);
        Edge.reads("up 0;!", 1, 5);
        Edge.reads("up 0;10000", 1, 5);
        Edge.reads("up 0 10000;", 1, 5);
        Edge.reads("takes 1 heard;", 1, 8);
        Edge.reads("takes heard", 5, 6);
        Edge.reads("takes runs;", 1, 6);
        Edge.reads("runs 1;takes runs;", 1, 13);
        Edge.reads("runs " + "(".repeat(8) + "not 1=1;", 1, 13);
        Edge.reads("runs " + "(".repeat(8) + "*", 1, 13);
        Edge.reads("runs " + "(".repeat(8), 1, 13);
        Edge.reads("up 0;".repeat(24) + "!", 1, 120);
        Edge.reads("up 0;".repeat(24) + "0", 1, 120);
        Edge.reads("runs 1;" + "up 0;".repeat(23) + "runs 1;", 4, 122);
    }

    private static void wrongNumbers() {
        Edge.of("2 a NUMBER that isn't one of those told (above 9999; ROADS 0 .. 3, WALK, RUN 1 .. 99, "
                + "DUE 0 .. 99, RINGS 0 .. 255, PERSONS 0 .. 7, DAYS 1 .. 60).");
        String[] ahead = {"person ", "person 0 walk ", "person 0 walk 1 run ",
            "person 0 walk 1 run 1 due ", "ring ", "due ", "due 0 of ", "bed ", "up ", "day ",
            "runs ", "takes 1+"};
        String[] behind = {" walk 1 run 1 due 0;", " run 1 due 0;", " due 0;", ";", ";", " of 0;", ";",
            ";", ";", ";", ";", ";"};
        int[] low = {0, 1, 1, 0, 0, 0, 0, 0, 0, 1, 0, 0};
        int[] high = {3, 99, 99, 99, 255, 99, 7, 7, 7, 60, 9999, 9999};
        for (int i = 0; i < ahead.length; i++) {
            Edge.stands(ahead[i] + low[i] + behind[i]);
            Edge.stands(ahead[i] + high[i] + behind[i]);
            Edge.stands(ahead[i] + "00000" + high[i] + behind[i]);
            Edge.reads(ahead[i] + (high[i] + 1) + behind[i], 2, ahead[i].length());
            Edge.reads(ahead[i] + "10000" + behind[i], 2, ahead[i].length());
            Edge.reads(ahead[i] + "4294967297" + behind[i], 2, ahead[i].length());
            if (low[i] == 1) {
                Edge.reads(ahead[i] + "0" + behind[i], 2, ahead[i].length());
            }
            if (i < 10) {
                Edge.reads(ahead[i] + "-1" + behind[i], 1, ahead[i].length());
                Edge.reads(ahead[i] + "who" + behind[i], 1, ahead[i].length());
            }
        }
    }

    private static void tooDeep() {
        Edge.of("3 the 9th of ( not rings if and - (of one ONE) that are open around one another (at it).");
        String[] opens = {"(", "-", "rings ", "if 1=1 then ", "if 1=1 then 1 else ", "if "};
        String[] closes = {")", "", "", " else 1 end", " end", "=1 then 1 else 1 end"};
        for (int i = 0; i < opens.length; i++) {
            if (i < 5) {
                Edge.stands("runs " + opens[i].repeat(8) + "1" + closes[i].repeat(8) + ";");
            } else {
                Edge.stands("runs " + "-".repeat(7) + opens[i] + "1" + closes[i] + ";");
            }
            Edge.reads("runs " + opens[i].repeat(9) + "1", 3, 5 + 8 * opens[i].length());
            Edge.stands("runs " + "(".repeat(7) + opens[i] + "1" + closes[i] + ")".repeat(7) + ";");
            Edge.reads("runs " + "(".repeat(8) + opens[i] + "1", 3, 13);
        }
        Edge.stands("runs if " + "not ".repeat(7) + "1=1 then 1 else 1 end;");
        Edge.reads("runs if " + "not ".repeat(8) + "1=1 then 1 else 1 end;", 3, 36);
        Edge.stands("runs ((((((if not 1=1 then 1 else 1 end))))));");
        Edge.reads("runs (((((((if not 1=1 then 1 else 1 end)))))));", 3, 15);
        // What is closed is open no more, and what stands beside another is not around it.
        Edge.stands("runs " + "(1)+".repeat(20) + "1;");
        Edge.stands("runs " + "-1+".repeat(20) + "1;");
        Edge.stands("runs " + "(".repeat(7) + "(1)+(1)+-1+rings 1" + ")".repeat(7) + ";");
        Edge.stands("runs " + "rings 1+".repeat(20) + "1;");
        Edge.stands("runs if " + "not 1=1 and ".repeat(20) + "1=1 then 1 else 1 end;");
        Edge.stands("runs " + "if 1=1 then 1 else 1 end+".repeat(10) + "1;");
        // The - between two is none of them.
        Edge.stands("runs " + "(".repeat(8) + "1-1-1" + ")".repeat(8) + ";");
        Edge.reads("runs " + "(".repeat(8) + "1--1" + ")".repeat(8) + ";", 3, 15);
        Edge.due("eight deep", Edge.value("-(-(-(-(5))))"), 5);
        Edge.due("eight deep", Edge.value("if 1=1 then ".repeat(8) + "5" + " else 1 end".repeat(8)), 5);
        Edge.due("eight deep", Edge.value("if 1=2 then 1 else ".repeat(8) + "5" + " end".repeat(8)), 5);
    }

    private static void otherFaults() {
        Edge.of("4 runs, takes for the second time (at it).");
        Edge.stands("runs 1;takes 1;");
        Edge.reads("runs 1;takes 1;runs", 4, 15);
        Edge.reads("runs 1;runs 10000;", 4, 7);
        Edge.reads("takes 1; takes", 4, 9);
        Edge.of("5 a NAME that isn't of that CLAUSE (at it).");
        Edge.stands("runs heard;takes fast+jam;");
        Edge.reads("runs fast;", 5, 5);
        Edge.reads("runs 1+(jam);", 5, 8);
        Edge.reads("takes heard;", 5, 6);
        Edge.reads("runs heard;takes heard;", 5, 17);
        Edge.reads("takes fast;runs fast;", 5, 16);
        Edge.reads("takes if heard=1 then 1 else 1 end;", 5, 9);
        Edge.reads("takes rings heard;", 5, 12);
        Edge.of("6 the 25th CLAUSE (at its first TOKEN).");
        Edge.stands("up 0;".repeat(24) + " \n ");
        Edge.reads("up 0;".repeat(24) + "  up 8;", 6, 122);
        Edge.reads("up 0;".repeat(24) + "runs", 6, 120);
        Edge.reads("up 0;".repeat(24) + "day 0;", 6, 120);
        Edge.reads("up 0;".repeat(26), 6, 120);
    }

    // ---- laws ----

    private static void laws() {
        Edge.of("runs: 0 at least, 9 at most; without: 1, if heard is above 0, else 0.");
        TollsForLate x = Edge.ruled(3, "takes 1;");
        Edge.due("runners(0)", x.runners(0), 0);
        Edge.due("runners(1)", x.runners(1), 7);
        Edge.due("runners(7)", x.runners(7), 7);
        x.hears(0, 0, false);
        Edge.due("runners(1), which one does not hear", x.runners(1), 6);
        Edge.due("runners(0) by -1", Edge.ruled(1, "runs -1;").runners(0), 0);
        Edge.due("runners(0) by 10", Edge.ruled(1, "runs 10;").runners(0), 1);
        Edge.due("fast is 1 by runs 9999", fastBy("runs 9999;takes fast;"), 1);
        Edge.of("takes: 0 at least, 999 at most; without: RUN, if it runs, else WALK, "
                + "and half of jam, cut.");
        String[] says = {"-9999*9999", "-1", "0", "1", "998", "999", "1000", "9999", "9999*9999"};
        int[] are = {0, 0, 0, 1, 998, 999, 999, 999, 999};
        for (int i = 0; i < says.length; i++) {
            TollsForLate y = Edge.ruled(1, "takes " + says[i] + ";");
            Edge.due("of(0, 7) by " + says[i], y.of(0, 7), are[i]);
            Edge.due("slack(0) by " + says[i], y.slack(0), -are[i]);
        }
        TollsForLate z = new TollsForLate();
        for (int p = 0; p < 8; p++) {
            z.person(2, 50, 20, 0);
        }
        z.hears(0, 1, false);
        z.ring(2);
        for (int p = 7; p > 0; p--) {
            Edge.due("of(0, 7), it walks, jam " + p, z.of(0, 7), 50 + p / 2);
            Edge.due("of(1, 7), it runs, jam " + (p - 1), z.of(1, 7), 20 + (p - 1) / 2);
            z.bed(p);
        }
        Edge.due("of(0, 7), jam 0", z.of(0, 7), 50);
    }

    private static int fastBy(String law) {
        return Edge.ruled(1, law).of(0, 7);
    }

    // ---- PLAYED ----

    private static Edge.Recipe with(String script) {
        return () -> {
            TollsForLate x = Edge.three();
            x.bed(1);
            Edge.write(x, script);
            return x;
        };
    }

    /** A CLAUSE that can't be, behind one that can: its number, and all is as behind the first. */
    private static void stopsAt(String clause) {
        TollsForLate x = with("runs 1;ring 3;" + clause + "ring 1;").town();
        Edge.due("played(0) of " + clause, x.played(0), 2);
        TollsForLate y = with("runs 1;ring 3;" + clause + "ring 1;").town();
        y.ring(3);
        Edge.alike("behind " + clause, x, y);
    }

    private static void playing() {
        Edge.of("PLAYED by a TEXT: its CLAUSES but laws, in their order, as by hand; one that can't be "
                + "ends it (of so many DAYS those that can pass do): its number among all CLAUSES "
                + "(from 0); what was done stays.");
        stopsAt("ring 8;");
        stopsAt("ring 255;");
        stopsAt("due 15 of 0;");
        stopsAt("due 5 of 3;");
        stopsAt("bed 1;");
        stopsAt("bed 3;");
        stopsAt("up 0;");
        stopsAt("up 7;");
        TollsForLate x = with("ring 7;due 16 of 0;bed 0;up 0;day 2;").town();
        Edge.due("played(0)", x.played(0), -1);
        TollsForLate y = with("ring 7;due 16 of 0;bed 0;up 0;day 2;").town();
        y.ring(7);
        y.due(0, 16);
        y.bed(0);
        y.up(0);
        y.day(2);
        Edge.alike("as by hand", x, y);
        eightPersons();
        daysThatCan();
    }

    private static void eightPersons() {
        TollsForLate one = new TollsForLate();
        Edge.write(one, "person 3 walk 99 run 98 due 97;person 0 walk 1 run 2 due 0;");
        Edge.due("two", one.played(0), -1);
        int[][] told = {{3, 99, 98, 97}, {0, 1, 2, 0}};
        for (int p = 0; p < 2; p++) {
            for (int what = 0; what < 4; what++) {
                Edge.due("of(" + p + ", " + what + ")", one.of(p, what), told[p][what]);
            }
        }
        TollsForLate x = new TollsForLate();
        Edge.write(x, "person 0 walk 9 run 8 due 7;".repeat(8));
        Edge.write(x, "day 1;person 0 walk 9 run 8 due 7;day 1;");
        Edge.due("eight", x.played(0), -1);
        Edge.due("about(0)", x.about(0), 8);
        Edge.due("about(3)", x.about(3), 0);
        Edge.due("the ninth", x.played(1), 1);
        Edge.due("is(0)", x.is(0), 1);
        Edge.due("about(0)", x.about(0), 8);
    }

    private static TollsForLate late(int day, String script) {
        TollsForLate x = Edge.three();
        Edge.toDay(x, day);
        Edge.write(x, script);
        return x;
    }

    private static void daysThatCan() {
        for (int n : new int[] {1, 2, 59, 60}) {
            TollsForLate x = late(9999 - n, "day " + n + ";ring 1;");
            Edge.due("played(0), all can", x.played(0), -1);
            Edge.due("is(0)", x.is(0), 9999);
            Edge.due("is(1)", x.is(1), 1);
            TollsForLate y = late(10000 - n, "runs 1;day " + n + ";ring 1;");
            Edge.due("played(0), one can't", y.played(0), 1);
            Edge.due("is(0)", y.is(0), 9999);
            Edge.due("is(1)", y.is(1), 4);
            Edge.due("of(2, 5)", y.of(2, 5), 9999);
            Edge.due("undo()", y.undo(), 29);
            Edge.due("is(0)", y.is(0), 9998);
        }
        Edge.refused("day 1 at 9999", () -> late(9999, "day 1;"), t -> t.played(0), 0);
        Edge.refused("day 60 at 9999", () -> late(9999, "takes 1;day 60;"), t -> t.played(0), 1);
    }

    private static void played() {
        Edge.of(14, "PLAYED by a TEXT: NONE: all is done; else the number of the CLAUSE that can't be.");
        Edge.refused("played of no CLAUSES", with(""), t -> t.played(0), -1);
        Edge.refused("played of laws alone", with("runs 1;takes 1;"), t -> t.played(0), -1);
        Edge.refused("the first can't be", with("bed 1;up 1;"), t -> t.played(0), 0);
        TollsForLate x = with("ring 1;".repeat(23) + "bed 1;").town();
        Edge.due("the last can't be", x.played(0), 23);
        Edge.due("about(3)", x.about(3), 24);
        TollsForLate y = with("ring 1;".repeat(24)).town();
        Edge.due("all of 24", y.played(0), -1);
        Edge.due("about(3)", y.about(3), 25);
        Edge.of(14, "-2 for others.");
        Edge.refused("played(0) of none", Edge::three, t -> t.played(0), -2);
        Edge.refused("played(-1)", Edge::busy, t -> t.played(-1), -2);
        Edge.refused("played(-2)", Edge::busy, t -> t.played(-2), -2);
        Edge.refused("played(2) of two", Edge::busy, t -> t.played(2), -2);
        Edge.refused("played(4) of four", Edge::full, t -> t.played(4), -2);
        for (int far : FAR) {
            Edge.refused("played(" + far + ")", Edge::full, t -> t.played(far), -2);
        }
        // A TEXT that an image took away is none any more.
        Edge.Recipe gone = () -> {
            TollsForLate t = Edge.three();
            Edge.write(t, "ring 0;");
            t.back();
            return t;
        };
        Edge.refused("played(0) behind back()", gone, t -> t.played(0), -2);
        Edge.refused("by(0) behind back()", gone, t -> Edge.bit(t.by(0)), 0);
    }

    static void all() {
        feed();
        end();
        texts();
        noText();
        behindFaults();
        fault();
        by();
        bytes();
        numbers();
        tapeEnds();
        clauses();
        sums();
        asks();
        names();
        reckoning();
        cantStand();
        wrongNumbers();
        tooDeep();
        otherFaults();
        laws();
        playing();
        played();
    }
}
