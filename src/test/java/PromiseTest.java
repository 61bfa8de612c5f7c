/**
 * The promises of the document one by one, with answers worked out by hand: ordinary calls, the
 * edges that the document names, and wrong calls.
 */
public final class PromiseTest {
    private static int wrong = 0;
    private static int checks = 0;
    private static int promise = 0;

    private static void due(String call, long got, long want) {
        checks++;
        if (got != want) {
            wrong++;
            System.out.println("promise " + promise + ": " + call + " answered " + got
                    + ", due is " + want);
        }
    }

    private static void due(String call, boolean got, boolean want) {
        due(call, got ? 1 : 0, want ? 1 : 0);
    }

    // ---- towns ----

    /** Late by no rings are 0 and 2, by any rings 2 alone. */
    private static TollsForLate three() {
        TollsForLate x = new TollsForLate();
        x.person(0, 20, 10, 15);
        x.person(0, 12, 8, 14);
        x.person(1, 30, 25, 20);
        return x;
    }

    /** So many PERSONS with DUE 0 on ROAD 0, ruled by this text. */
    private static TollsForLate ruled(int persons, String law) {
        TollsForLate x = new TollsForLate();
        for (int i = 0; i < persons; i++) {
            x.person(0, 1, 1, 0);
        }
        due("text of " + law, write(x, law), 0);
        x.by(0);
        return x;
    }

    /** A PERSON is late if it rings for it: all RINGS are settled. */
    private static TollsForLate echo(int persons) {
        return ruled(persons, "takes rings who;");
    }

    /** A PERSON is late if it rings for the next of three: RINGS go round. */
    private static TollsForLate carousel() {
        return ruled(3, "takes rings(who+1-(who+1)/3*3);");
    }

    /** A PERSON is late if it rings for the next one: RINGS die out. */
    private static TollsForLate slide(int persons) {
        return ruled(persons, "takes rings(who+1);");
    }

    /** A PERSON is late if it does not ring for it. */
    private static TollsForLate mirror(int persons) {
        return ruled(persons, "takes 1-rings who;");
    }

    private static void load(TollsForLate x, String text) {
        x.end(0);
        for (int i = 0; i < text.length(); i += 20) {
            int[] w = new int[5];
            for (int j = 0; j < 20 && i + j < text.length(); j++) {
                w[j / 4] |= text.charAt(i + j) << 24 - j % 4 * 8;
            }
            x.feed(w[0], w[1], w[2], w[3], w[4]);
        }
        x.end(text.length());
    }

    private static int write(TollsForLate x, String text) {
        load(x, text);
        return x.text();
    }

    private static void toDay(TollsForLate x, int day) {
        while (x.is(0) < day) {
            x.day(Math.min(60, day - x.is(0)));
        }
    }

    private static String times(int n, String s) {
        return s.repeat(n);
    }

    // ---- I. ----

    private static void newObject() {
        promise = 1;
        TollsForLate x = new TollsForLate();
        int[] is = {0, 0, 0, 229};
        for (int i = 0; i < 4; i++) {
            due("is(" + i + ")", x.is(i), is[i]);
        }
        int[] about = {0, 0, -1, 0, 0, 0, 0};
        for (int i = 0; i < 7; i++) {
            due("about(" + i + ")", x.about(i), about[i]);
        }
        due("book(-1, 0)", x.book(-1, 0), 0);
        due("fault(0)", x.fault(0), -1);
        x.person(0, 1, 1, 1);
        x.hears(0, 0, false);
        x.day(3);
        x.heard(0, true);
        x.said(0, 1);
        write(x, "");
        x.by(0);
        due("back()", x.back(), 0);
        for (int i = 0; i < 4; i++) {
            due("is(" + i + ")", x.is(i), is[i]);
        }
        for (int i = 0; i < 7; i++) {
            due("about(" + i + ")", x.about(i), about[i]);
        }
        due("book(-1, 0)", x.book(-1, 0), 0);
        x.person(0, 1, 1, 1);
        due("of(0, 8)", x.of(0, 8), 255);
    }

    private static void person() {
        promise = 2;
        TollsForLate x = new TollsForLate();
        int[][] others = {{-1, 1, 1, 0}, {4, 1, 1, 0}, {0, 0, 1, 0}, {0, 100, 1, 0}, {0, 1, 0, 0},
            {0, 1, 100, 0}, {0, 1, 1, -1}, {0, 1, 1, 100}, {Integer.MIN_VALUE, 1, 1, 1},
            {0, Integer.MAX_VALUE, 1, 1}};
        for (int[] o : others) {
            due("person of others", x.person(o[0], o[1], o[2], o[3]), -1);
        }
        due("about(0)", x.about(0), 0);
        due("person(0, 1, 1, 0)", x.person(0, 1, 1, 0), 0);
        due("person(3, 99, 99, 99)", x.person(3, 99, 99, 99), 1);
        for (int i = 2; i < 8; i++) {
            due("person", x.person(i % 4, i, i, i), i);
        }
        due("the ninth", x.person(0, 1, 1, 1), -1);
        due("about(0)", x.about(0), 8);
        due("of(1, 0)", x.of(1, 0), 3);
        due("of(1, 1)", x.of(1, 1), 99);
        due("of(7, 2)", x.of(7, 2), 7);
        due("of(1, 4)", x.of(1, 4), 0);
        due("of(1, 5)", x.of(1, 5), 0);
        due("about(3)", x.about(3), 0);
    }

    private static void hears() {
        promise = 3;
        TollsForLate x = new TollsForLate();
        due("hears of one not there", x.hears(2, 7, false), true);
        due("hears(7, 0, false)", x.hears(7, 0, false), true);
        due("hears(-1, 0, false)", x.hears(-1, 0, false), false);
        due("hears(8, 0, false)", x.hears(8, 0, false), false);
        due("hears(0, -1, false)", x.hears(0, -1, false), false);
        due("hears(0, 8, false)", x.hears(0, 8, false), false);
        for (int i = 0; i < 3; i++) {
            x.person(0, 9, 5, 7);
        }
        due("of(2, 8)", x.of(2, 8), 127);
        due("of(0, 8)", x.of(0, 8), 255);
        due("late(1)", x.late(1), 0);
        x.hears(1, 0, false);
        due("runners(1)", x.runners(1), 5);
        due("late(1)", x.late(1), 2);
        due("runners(3)", x.runners(3), 7);
        x.hears(1, 0, true);
        due("runners(1)", x.runners(1), 7);
        due("about(3)", x.about(3), 0);
    }

    // ---- II. ----

    private static void feed() {
        promise = 4;
        TollsForLate x = new TollsForLate();
        // "takes 1;" with the highest byte first, and behind it what is no TOKEN
        due("feed", x.feed(0x74616b65, 0x7320313b, 0x20202020, 0x0a0a0a0a, 0x202020ff), 20);
        due("text()", x.text(), -1);
        due("fault(1)", x.fault(1), 19);
        due("feed", x.feed(0x80000000, 0, 0, 0, 0), 20);
        due("text()", x.text(), -1);
        due("fault(1)", x.fault(1), 0);
        for (int i = 1; i <= 15; i++) {
            due("feed", x.feed(0, 0, 0, 0, 0), 20 * i);
        }
        due("feed of more than 300", x.feed(1, 1, 1, 1, 1), -1);
        due("about(6)", x.about(6), 300);
        x.end(281);
        due("feed of more than 300", x.feed(1, 1, 1, 1, 1), -1);
        due("about(6)", x.about(6), 281);
        x.end(280);
        due("feed", x.feed(1, 1, 1, 1, 1), 300);
        x.end(7);
        due("feed", x.feed(1, 1, 1, 1, 1), 27);
    }

    private static void end() {
        promise = 5;
        TollsForLate x = new TollsForLate();
        due("end(0)", x.end(0), 0);
        due("end(1)", x.end(1), -1);
        due("end(-1)", x.end(-1), -1);
        load(x, "up 0;up 1;");
        due("end(11)", x.end(11), -1);
        due("about(6)", x.about(6), 10);
        due("end(10)", x.end(10), 10);
        due("end(-1)", x.end(-1), -1);
        due("about(6)", x.about(6), 10);
        due("end(9)", x.end(9), 9);
        due("text()", x.text(), -1);
        due("fault(1)", x.fault(1), 9);
        due("end(1)", x.end(1), -1);
    }

    private static void text() {
        promise = 6;
        TollsForLate x = new TollsForLate();
        due("text() of nothing", x.text(), 0);
        due("about(1)", x.about(1), 1);
        load(x, "up");
        due("text() with a FAULT", x.text(), -1);
        due("about(6)", x.about(6), 0);
        due("about(1)", x.about(1), 1);
        due("text of blanks", write(x, " \n \n"), 1);
        due("text of 300 bytes", write(x, times(295, " ") + "up 1;"), 2);
        due("text", write(x, "day 1;"), 3);
        due("about(6)", x.about(6), 0);
        load(x, "nonsense");
        due("the fifth", x.text(), -1);
        due("about(6)", x.about(6), 8);
        due("about(1)", x.about(1), 4);
        due("fault(0)", x.fault(0), 0);
        x.back();
        due("text() anew", x.text(), -1);
        due("fault(0)", x.fault(0), 1);
        // What was read up to a FAULT leaves nothing behind.
        TollsForLate y = new TollsForLate();
        y.person(0, 1, 1, 0);
        for (int i = 0; i < 5; i++) {
            due("text", write(y, "runs 1;takes 1" + times(130, "+1") + ";$"), -1);
        }
        due("text", write(y, "takes 1" + times(140, "+1") + ";"), 0);
        y.by(0);
        due("of(0, 7)", y.of(0, 7), 141);
        due("of(0, 6)", y.of(0, 6), 0);
    }

    private static void faulty(String text, int fault, int place) {
        TollsForLate x = new TollsForLate();
        due("text of " + text, write(x, text), fault == 0 ? 0 : -1);
        due("fault(0) of " + text, x.fault(0), fault);
        due("fault(1) of " + text, x.fault(1), place);
    }

    private static void fault() {
        promise = 7;
        TollsForLate x = new TollsForLate();
        due("fault(0)", x.fault(0), -1);
        due("fault(1)", x.fault(1), -1);
        write(x, "oh");
        due("fault(2)", x.fault(2), -1);
        due("fault(-1)", x.fault(-1), -1);
        due("fault(0)", x.fault(0), 1);
        due("fault(1)", x.fault(1), 0);
        x.image();
        write(x, "up 8;");
        due("back()", x.back(), 0);
        due("fault(0), which no image holds", x.fault(0), 2);
        due("fault(1)", x.fault(1), 3);
        write(x, "up 7;");
        due("fault(0)", x.fault(0), 0);
        due("fault(1)", x.fault(1), -1);
        tokens();
        numbers();
        sums();
        asks();
        opens();
        clauses();
    }

    private static void tokens() {
        faulty("up\n0\n;", 0, -1);
        faulty("up0;", 0, -1);
        faulty("UP 0;", 1, 0);
        faulty("upp 0;", 1, 0);
        for (char c : "azAZmM".toCharArray()) {
            faulty("up" + c + " 0;", 1, 0);
        }
        for (char c : "@[`{_.,:!\"'&|~^%?".toCharArray()) {
            faulty("up" + c + " 0;", 1, 2);
            faulty("up 0" + c + ";", 1, 4);
        }
        faulty("u p 0;", 1, 0);
        faulty("up\t0;", 1, 2);
        faulty("up 0\r;", 1, 4);
        faulty("takes 1+$;", 1, 8);
        faulty("takes if 1< =1 then 1 else 1 end;", 1, 12);
        faulty("takes if 1=<1 then 1 else 1 end;", 1, 11);
        faulty("takes if 1<=1 then 1 else 1 end;", 0, -1);
        faulty("takes if 1>=1 then 1 else 1 end;", 0, -1);
        faulty("takes if 1<>1 then 1 else 1 end;", 1, 11);
        faulty("takes iff 1=1 then 1 else 1 end;", 1, 6);
        faulty("takes if1=1then1else1end;", 0, -1);
        faulty("takes walkrun;", 1, 6);
        faulty("takes walk run;", 1, 11);
        faulty("takes day3;", 1, 9);
        faulty("takes 3day;", 1, 7);
        faulty("takes weatherweather;", 1, 6);
        faulty("takes 0009999;", 0, -1);
        faulty("takes 9999 ;", 0, -1);
        faulty(times(300, ";"), 1, 0);
        faulty("takes 1" + times(146, "+1") + ";", 0, -1);
        faulty("takes 1" + times(145, "+1") + "+(1", 1, 300);
        behindTheEnd("takes walkrun;", 10, 1, 10);
        behindTheEnd("up 77;", 4, 1, 4);
        behindTheEnd("takes if 1<=1 then", 11, 1, 11);
        behindTheEnd("up 0;run;", 6, 1, 5);
        behindTheEnd("up 7;up 8;", 5, 0, -1);
    }

    /** What stood behind the end of a tape is not of it. */
    private static void behindTheEnd(String bytes, int n, int fault, int place) {
        TollsForLate x = new TollsForLate();
        load(x, bytes);
        x.end(n);
        due("text() of " + bytes, x.text(), fault == 0 ? 0 : -1);
        due("fault(0) of " + bytes, x.fault(0), fault);
        due("fault(1) of " + bytes, x.fault(1), place);
    }

    private static void numbers() {
        faulty("takes 10000;", 2, 6);
        faulty("takes 99999999999999999999999999;", 2, 6);
        faulty("takes 4294967297;", 2, 6);
        faulty("takes 18446744073709551617;", 2, 6);
        faulty("takes 1 10000;", 1, 8);
        faulty("person 3 walk 99 run 99 due 99;", 0, -1);
        faulty("person 0 walk 1 run 1 due 0;", 0, -1);
        faulty("person 4 walk 1 run 1 due 0;", 2, 7);
        faulty("person 0 walk 100 run 1 due 0;", 2, 14);
        faulty("person 0 walk 1 run 100 due 0;", 2, 20);
        faulty("person 0 walk 0 run 1 due 0;", 2, 14);
        faulty("person 0 walk 1 run 0 due 0;", 2, 20);
        faulty("person 0 walk 1 run 1 due 100;", 2, 26);
        faulty("person 0 run 1 walk 1 due 0;", 1, 9);
        faulty("person 0 walk 1 due 1 run 0;", 1, 16);
        faulty("person 0 walk 1 run 1;", 1, 21);
        faulty("person walk;", 1, 7);
        faulty("ring 255;ring 0;", 0, -1);
        faulty("ring 256;", 2, 5);
        faulty("ring -1;", 1, 5);
        faulty("due 99 of 7;due 0 of 0;", 0, -1);
        faulty("due 100 of 8;", 2, 4);
        faulty("due 99 of 8;", 2, 10);
        faulty("due 99 0;", 1, 7);
        faulty("bed 7;up 0;", 0, -1);
        faulty("bed 8;", 2, 4);
        faulty("up 8;", 2, 3);
        faulty("day 1;day 60;", 0, -1);
        faulty("day 0;", 2, 4);
        faulty("day 61;", 2, 4);
        faulty("bed who;", 1, 4);
        faulty("ring heard;", 1, 5);
    }

    private static void sums() {
        faulty("runs;", 1, 4);
        faulty("runs", 1, 4);
        faulty("runs  ", 1, 6);
        faulty("runs 1", 1, 6);
        faulty("runs 1+;", 1, 7);
        faulty("runs *1;", 1, 5);
        faulty("runs 1**1;", 1, 7);
        faulty("runs 1--1;", 0, -1);
        faulty("runs 1+-1*-who/ - 2;", 0, -1);
        faulty("runs ();", 1, 6);
        faulty("runs (1;", 1, 7);
        faulty("runs 1);", 1, 6);
        faulty("runs rings;", 1, 10);
        faulty("runs rings rings 1;", 0, -1);
        faulty("runs rings -1;", 0, -1);
        faulty("runs rings 1 2;", 1, 13);
        faulty("runs not 1;", 1, 5);
        faulty("runs then;", 1, 5);
        faulty("runs of;", 1, 5);
        faulty("runs 1=1;", 1, 6);
        faulty("runs day+weather+who+road+walk+run+due+heard;", 0, -1);
        faulty("takes day+weather+who+road+walk+run+due+fast+jam;", 0, -1);
        faulty("runs 1+fast;", 5, 7);
        faulty("runs jam;", 5, 5);
        faulty("takes heard;", 5, 6);
        faulty("takes 1 heard;", 1, 8);
        faulty("takes 1;runs fast;", 5, 13);
        faulty("takes person;", 1, 6);
    }

    private static void asks() {
        faulty("runs if 1=1 then 1 else 2 end;", 0, -1);
        faulty("runs if 1 then 1 else 2 end;", 1, 10);
        faulty("runs if 1=1=1 then 1 else 2 end;", 1, 11);
        faulty("runs if (1=1) then 1 else 2 end;", 1, 10);
        faulty("runs if 1=1 else 2 end;", 1, 12);
        faulty("runs if 1=1 then 1 end;", 1, 19);
        faulty("runs if 1=1 then 1 else 2;", 1, 25);
        faulty("runs if not 1=1 and not not 2#1 or 1<1 xor 3>2 then 1 else 2 end*2;", 0, -1);
        faulty("runs if 1=1 and then 1 else 2 end;", 1, 16);
        faulty("runs if 1=1 or or 1=1 then 1 else 2 end;", 1, 15);
        faulty("runs if 1=1 not 1=1 then 1 else 2 end;", 1, 12);
        faulty("runs if 1=not 1 then 1 else 2 end;", 1, 10);
        faulty("runs if (1)=1 then 1 else 2 end;", 0, -1);
    }

    private static void opens() {
        faulty("runs " + times(8, "(") + "1" + times(8, ")") + ";", 0, -1);
        faulty("runs " + times(9, "(") + "1" + times(9, ")") + ";", 3, 13);
        faulty("runs " + times(8, "-") + "1;", 0, -1);
        faulty("runs " + times(9, "-") + "1;", 3, 13);
        faulty("runs 1" + times(9, "-") + "1;", 0, -1);
        faulty("runs 1" + times(10, "-") + "1;", 3, 15);
        faulty("runs " + times(8, "rings ") + "1;", 0, -1);
        faulty("runs " + times(9, "rings ") + "1;", 3, 53);
        faulty("runs if " + times(7, "not ") + "1=1 then 1 else 1 end;", 0, -1);
        faulty("runs if " + times(8, "not ") + "1=1 then 1 else 1 end;", 3, 36);
        faulty("runs if " + times(7, "not ") + "(1)=1 then 1 else 1 end;", 3, 36);
        faulty("runs " + times(8, "if 1=1 then ") + "1" + times(8, " else 1 end") + ";", 0, -1);
        faulty("runs " + times(9, "if 1=1 then ") + "1" + times(9, " else 1 end") + ";", 3, 101);
        faulty("runs " + times(8, "if 1=1 then 1 else ") + "1" + times(8, " end") + ";", 0, -1);
        faulty("runs " + times(9, "if 1=1 then 1 else ") + "1" + times(9, " end") + ";", 3, 157);
        faulty("runs " + times(9, "if ") + "1;", 3, 29);
        faulty("runs -rings(if not -rings(1)=1 then 1 else 1 end);", 0, -1);
        faulty("runs -rings(if not -rings(-1)=1 then 1 else 1 end);", 3, 26);
        faulty("runs " + times(9, "(1)+") + "1;", 0, -1);
        faulty("runs " + times(8, "(") + "1+$;", 1, 15);
    }

    private static void clauses() {
        faulty(";", 1, 0);
        faulty("up 0;;", 1, 5);
        faulty("up 0 up 0;", 1, 5);
        faulty("rings 1;", 1, 0);
        faulty("walk 1;", 1, 0);
        faulty("runs 1;takes 1;", 0, -1);
        faulty("runs 1;up 0;runs 1;", 4, 12);
        faulty("takes 1;takes 1;", 4, 8);
        faulty("takes 1;takes $", 4, 8);
        faulty("runs 1;takes 1;takes", 4, 15);
        faulty(times(24, "up 0;"), 0, -1);
        faulty(times(25, "up 0;"), 6, 120);
        faulty(times(24, "up 0;") + " \n", 0, -1);
        faulty(times(24, "up 0;") + " runs", 6, 121);
        faulty(times(24, "up 0;") + "$", 1, 120);
        faulty("runs 1;" + times(23, "up 0;") + "runs 1;", 4, 122);
        faulty("runs 1;" + times(23, "up 0;") + "takes 1;", 6, 122);
        faulty(times(24, "up 0;") + ";", 1, 120);
    }

    private static int value(String sum) {
        TollsForLate x = new TollsForLate();
        x.person(2, 31, 17, 43);
        x.person(2, 32, 18, 44);
        x.person(1, 33, 19, 45);
        x.ring(5);
        write(x, "takes " + sum + ";");
        x.by(0);
        return x.of(1, 7);
    }

    /** What laws say; PERSON 1 is asked, of three that all run, by RINGS for 0 and 2. */
    private static void by() {
        promise = 8;
        TollsForLate x = new TollsForLate();
        due("by(0)", x.by(0), false);
        due("by(-1)", x.by(-1), true);
        due("by(-2)", x.by(-2), false);
        write(x, "takes 7;");
        write(x, "runs 1;");
        due("by(1)", x.by(1), true);
        due("by(2)", x.by(2), false);
        due("about(2)", x.about(2), 1);
        x.person(0, 20, 10, 5);
        due("of(0, 6)", x.of(0, 6), 1);
        due("of(0, 7)", x.of(0, 7), 10);
        x.by(0);
        due("of(0, 6)", x.of(0, 6), 0);
        due("of(0, 7)", x.of(0, 7), 7);
        x.by(-1);
        due("of(0, 7)", x.of(0, 7), 20);
        due("about(2)", x.about(2), -1);
        due("about(3)", x.about(3), 0);
        reckoning();
        asking();
        naming();
    }

    private static void reckoning() {
        due("7-2-1", value("7-2-1"), 4);
        due("7-(2-1)", value("7-(2-1)"), 6);
        due("2+3*4", value("2+3*4"), 14);
        due("100/7/2", value("100/7/2"), 7);
        due("7*3/2", value("7*3/2"), 10);
        due("7/2*3", value("7/2*3"), 9);
        due("10+-7/2", value("10+-7/2"), 7);
        due("10+(0-7)/2", value("10+(0-7)/2"), 7);
        due("10-7/-2", value("10-7/-2"), 13);
        due("5/0", value("5/0"), 0);
        due("5/(who-1)+3", value("5/(who-1)+3"), 3);
        due("-5", value("-5"), 0);
        due("5--5", value("5--5"), 10);
        due("1000", value("1000"), 999);
        due("9999", value("9999"), 999);
        due("999", value("999"), 999);
        due("9999*9999 is 1000000", value("9999*9999-9999*100"), 100);
        due("9999*9999 is 1000000", value("9999*9999/5000-1"), 199);
        due("at each step", value("9999*9999*9999/9999"), 100);
        due("at each step", value("9999*100+9999-9999*100+0"), 100);
        due("below likewise", value("-9999*9999+9999*100+200"), 100);
        due("below likewise", value("0-9999*9999-9999*9999+9999*100+200"), 100);
        due("1000000 is not above", value("1000*1000/1000-900"), 100);
    }

    private static void asking() {
        due("if", value("if 1=1 then 5 else 6 end"), 5);
        due("if", value("if 1#1 then 5 else 6 end"), 6);
        due("if in a sum", value("1+if 1<2 then 5 else 6 end*2"), 11);
        due("if in if", value("if 1>2 then 5 else if 2>=2 then 7 else 8 end end"), 7);
        due("<", value("if 2<2 then 1 else 0 end"), 0);
        due("<=", value("if 2<=2 then 1 else 0 end"), 1);
        due("<=", value("if 3<=2 then 1 else 0 end"), 0);
        due(">", value("if 2>2 then 1 else 0 end"), 0);
        due(">", value("if 3>2 then 1 else 0 end"), 1);
        due(">=", value("if 2>=3 then 1 else 0 end"), 0);
        due(">=", value("if 3>=3 then 1 else 0 end"), 1);
        due("#", value("if 3#2 then 1 else 0 end"), 1);
        due("not", value("if not 1=1 then 1 else 0 end"), 0);
        due("not not", value("if not not 1=1 then 1 else 0 end"), 1);
        due("not of one ASK alone", value("if not 1=1 or 1=1 then 1 else 0 end"), 1);
        due("and", value("if 1=1 and 1=2 then 1 else 0 end"), 0);
        due("and", value("if 1=1 and 2=2 then 1 else 0 end"), 1);
        due("and ahead of or", value("if 1=1 or 1=1 and 1=2 then 1 else 0 end"), 1);
        due("from the left", value("if 1=1 or 1=1 xor 1=1 then 1 else 0 end"), 0);
        due("from the left", value("if 1=1 xor 1=1 or 1=1 then 1 else 0 end"), 1);
        due("xor", value("if 1=1 xor 1=2 then 1 else 0 end"), 1);
        String[] truths = {"1<2", "1<=2", "2>1", "2>=1", "1=1", "1#2", "not 1=2"};
        for (String one : truths) {
            for (String other : truths) {
                due(one + " and " + other, value("if " + one + " and " + other
                        + " then 1 else 0 end"), 1);
                due(one + " xor " + other, value("if " + one + " xor " + other
                        + " then 1 else 0 end"), 0);
            }
        }
        due("rings 0", value("rings 0"), 1);
        due("rings 1", value("rings 1"), 0);
        due("rings 2", value("rings 2"), 1);
        due("rings 7", value("rings 7"), 0);
        due("rings 8", value("rings 8"), 0);
        due("rings 32", value("rings 32"), 0);
        due("rings -1", value("3+rings -1"), 3);
        due("rings of one ONE", value("rings 1+1"), 1);
        due("rings of a SUM", value("rings(1+1)"), 1);
        due("rings rings", value("rings rings 1"), 1);
    }

    private static void naming() {
        due("who", value("who"), 1);
        due("road", value("road"), 2);
        due("walk", value("walk"), 32);
        due("run", value("run"), 18);
        due("due", value("due"), 44);
        due("fast", value("fast"), 1);
        due("jam", value("jam"), 1);
        due("day and weather", value("day*10+weather"), 0);
        TollsForLate x = three();
        write(x, "takes day*10+weather;runs heard-1;");
        x.by(0);
        x.day(2);
        due("day and weather", x.of(0, 7), 21);
        due("heard", x.runners(1), 0);
        due("heard", x.runners(3), 7);
        x.hears(1, 0, false);
        due("heard", x.runners(3), 5);
        write(x, "runs 0-heard;");
        x.by(1);
        due("less than 0", x.runners(7), 0);
        write(x, "runs rings 1;");
        x.by(2);
        due("rings in runs", x.runners(5), 0);
        due("rings in runs, whom it doesn't hear, too", x.runners(2), 7);
        due("RINGS that are asked for", x.late(2), 4);
        // Jam, cut: two others make one minute, one other none.
        TollsForLate y = new TollsForLate();
        for (int i = 0; i < 4; i++) {
            y.person(3, 50, 20, 20);
        }
        y.ring(1);
        due("half of jam, cut", y.of(0, 7), 21);
        y.bed(3);
        due("half of jam, cut", y.of(0, 7), 21);
        y.bed(2);
        due("half of jam, cut", y.of(0, 7), 20);
        due("of one in bed, which doesn't run", y.of(3, 7), 51);
        due("of one in bed, which doesn't run", y.of(3, 6), 0);
    }

    // ---- what is done ----

    private static void ring() {
        promise = 9;
        TollsForLate x = three();
        due("ring(7)", x.ring(7), true);
        due("is(1)", x.is(1), 7);
        due("ring(8)", x.ring(8), false);
        due("ring(-1)", x.ring(-1), false);
        due("is(1)", x.is(1), 7);
        due("ring(7) again", x.ring(7), true);
        due("ring(0)", x.ring(0), true);
        due("is(1)", x.is(1), 0);
        due("about(3)", x.about(3), 3);
        TollsForLate y = new TollsForLate();
        due("ring(0) for nobody", y.ring(0), true);
        due("ring(1) for nobody", y.ring(1), false);
    }

    private static void putOff() {
        promise = 10;
        TollsForLate x = three();
        due("due(0, 15)", x.due(0, 15), false);
        due("due(0, 100)", x.due(0, 100), false);
        due("due(0, -1)", x.due(0, -1), false);
        due("due(3, 1)", x.due(3, 1), false);
        due("due(-1, 1)", x.due(-1, 1), false);
        due("about(3)", x.about(3), 0);
        due("due(0, 0)", x.due(0, 0), true);
        due("due(2, 99)", x.due(2, 99), true);
        due("of(0, 3)", x.of(0, 3), 0);
        due("of(2, 3)", x.of(2, 3), 99);
        due("late(0)", x.late(0), 1);
        due("about(3)", x.about(3), 2);
    }

    private static void bed() {
        promise = 11;
        TollsForLate x = three();
        due("late(0)", x.late(0), 5);
        due("bed(2)", x.bed(2), true);
        due("bed(2)", x.bed(2), false);
        due("bed(3)", x.bed(3), false);
        due("bed(-1)", x.bed(-1), false);
        due("late(0)", x.late(0), 1);
        due("runners(4)", x.runners(4), 3);
        due("of(2, 4)", x.of(2, 4), 1);
        due("of(1, 4)", x.of(1, 4), 0);
        due("about(3)", x.about(3), 1);
    }

    private static void up() {
        promise = 12;
        TollsForLate x = three();
        due("up(0)", x.up(0), false);
        x.bed(0);
        x.bed(1);
        due("late(0)", x.late(0), 4);
        due("up(0)", x.up(0), true);
        due("up(0)", x.up(0), false);
        due("up(3)", x.up(3), false);
        due("up(-1)", x.up(-1), false);
        due("late(0)", x.late(0), 5);
        due("of(0, 4)", x.of(0, 4), 0);
        due("of(1, 4)", x.of(1, 4), 1);
        due("about(3)", x.about(3), 3);
    }

    private static void day() {
        promise = 13;
        TollsForLate x = three();
        due("day(0)", x.day(0), -1);
        due("day(61)", x.day(61), -1);
        due("day(-1)", x.day(-1), -1);
        due("is(3)", x.is(3), 229);
        // Late are 0 and 2, then 2 alone each day.
        due("day(3)", x.day(3), 4);
        due("is(0)", x.is(0), 3);
        due("is(1)", x.is(1), 4);
        due("is(2)", x.is(2), 2);
        due("is(3)", x.is(3), 2911);
        due("of(0, 5)", x.of(0, 5), 1);
        due("of(1, 5)", x.of(1, 5), 0);
        due("of(2, 5)", x.of(2, 5), 3);
        due("about(3)", x.about(3), 3);
        due("day(60)", x.day(60), 60);
        due("about(3)", x.about(3), 30);
        toDay(x, 9990);
        due("day(10)", x.day(10), -1);
        due("is(0)", x.is(0), 9990);
        due("day(9)", x.day(9), 9);
        due("is(0)", x.is(0), 9999);
        due("day(1)", x.day(1), -1);
        due("of(2, 5)", x.of(2, 5), 9999);
        // A law sees WEATHER and DAY of the day that passes.
        TollsForLate y = ruled(1, "takes if weather=9 and day=0 then 1 else 0 end;");
        due("day(1)", y.day(1), 1);
        due("day(1)", y.day(1), 0);
        TollsForLate z = new TollsForLate();
        due("day(2) of nobody", z.day(2), 0);
        due("is(0)", z.is(0), 2);
    }

    private static void played() {
        promise = 14;
        TollsForLate x = new TollsForLate();
        due("played(0)", x.played(0), -2);
        write(x, "person 0 walk 20 run 10 due 15;runs 0;ring 1;day 2;due 16 of 0;bed 0;up 0;");
        due("played(-1)", x.played(-1), -2);
        due("played(1)", x.played(1), -2);
        due("played(0)", x.played(0), -1);
        due("about(0)", x.about(0), 1);
        due("about(3)", x.about(3), 6);
        due("is(0)", x.is(0), 2);
        // It is not ruled by it: the bell was heard, it ran, then it was late.
        due("of(0, 5)", x.of(0, 5), 1);
        due("of(0, 3)", x.of(0, 3), 16);
        due("played(0) anew: DUE is so", x.played(0), 4);
        due("about(0)", x.about(0), 2);
        due("is(0)", x.is(0), 4);
        write(x, "takes 1;ring 3;ring 4;ring 1;");
        due("played(1)", x.played(1), 2);
        due("is(1)", x.is(1), 3);
        write(x, "up 0;");
        due("played(2)", x.played(2), 0);
        write(x, "bed 1;bed 1;bed 0;");
        due("played(3)", x.played(3), 1);
        due("of(0, 4)", x.of(0, 4), 0);
        TollsForLate y = new TollsForLate();
        write(y, times(9, "person 0 walk 9 run 9 due 9;"));
        due("nine persons", y.played(0), 8);
        due("about(0)", y.about(0), 8);
        TollsForLate z = three();
        toDay(z, 9995);
        write(z, "day 4;up 0;");
        write(z, "runs 1;day 6;up 0;");
        due("day 6 of 4", z.played(1), 1);
        due("is(0)", z.is(0), 9999);
        z.undo();
        due("is(0)", z.is(0), 9998);
        due("day 4 of 1", z.played(0), 0);
        for (int i = 0; i < 4; i++) {
            z.undo();
        }
        due("day 4 of 4", z.played(0), 1);
        due("is(0)", z.is(0), 9999);
    }

    private static void years() {
        promise = 15;
        TollsForLate x = three();
        due("years(-1, 1)", x.years(-1, 1), -1);
        due("years(10000, 1)", x.years(10000, 1), -1);
        due("years(0, 0)", x.years(0, 0), -1);
        due("years(0, 41)", x.years(0, 41), -1);
        due("is(3)", x.is(3), 229);
        due("about(3)", x.about(3), 0);
        // 229: PERSON 1 put off to 38. 14451: PERSON 0 up. 10992: RINGS for PERSON 0 alone.
        due("years(0, 1)", x.years(0, 1), 0);
        due("of(1, 3)", x.of(1, 3), 38);
        due("is(3)", x.is(3), 14451);
        due("years(0, 3)", x.years(0, 3), 0);
        due("is(1)", x.is(1), 1);
        due("is(3)", x.is(3), 2911);
        // 2911: PERSON 1 put off to 85. 30497: a DAY; X is 24684 then, and 29849 behind it. By
        // RINGS for 0 all run, and 2 alone is late.
        due("years(0, 5)", x.years(0, 5), 1);
        due("of(1, 3)", x.of(1, 3), 85);
        due("is(2)", x.is(2), 4);
        due("is(3)", x.is(3), 29849);
        due("is(1)", x.is(1), 4);
        due("book(0, 1)", x.book(0, 1), 1);
        due("book(0, 2)", x.book(0, 2), 4);
        due("book(0, 3)", x.book(0, 3), 4);
        due("of(2, 5)", x.of(2, 5), 1);
        due("about(3)", x.about(3), 3);
        x.undo();
        due("is(0)", x.is(0), 0);
        due("is(3)", x.is(3), 2911);
        // SEED 1: 231: PERSON 0 up, nothing; SEED 5: 239: a DAY.
        x.bed(0);
        due("years(1, 1)", x.years(1, 1), 0);
        due("of(0, 4)", x.of(0, 4), 0);
        due("years(5, 1)", x.years(5, 1), 1);
        TollsForLate y = new TollsForLate();
        due("years(0, 5) of nobody", y.years(0, 5), 1);
        due("is(1)", y.is(1), 0);
        due("about(3)", y.about(3), 1);
        due("years(9999, 40)", y.years(9999, 40) >= 1, true);
        due("undo()", y.undo(), 1);
        due("is(0)", y.is(0), 1);
        TollsForLate z = three();
        toDay(z, 9999);
        due("years of no DAYS", z.years(5, 1), 9999);
        due("is(2)", z.is(2), z.book(29, 3));
        inBedByDraw();
    }

    /** The first draw that puts one IN BED, by a SEED that is looked for. */
    private static void inBedByDraw() {
        for (int seed = 0; seed < 10000; seed++) {
            int x = ((seed * 2 + 229) * 463 + 353) % 30643;
            if (x % 6 == 2) {
                TollsForLate t = three();
                t.years(seed, 2);
                due("of(2, 4) by SEED " + seed, t.of(2, 4), 1);
                return;
            }
        }
        due("a SEED", 0, 1);
    }

    private static void undo() {
        promise = 16;
        TollsForLate x = three();
        due("undo()", x.undo(), -1);
        x.ring(3);
        x.due(0, 50);
        x.bed(1);
        x.up(1);
        x.day(1);
        x.hears(0, 1, false);
        due("of(2, 5)", x.of(2, 5), 1);
        due("undo()", x.undo(), 4);
        due("of(2, 5)", x.of(2, 5), 0);
        due("is(0)", x.is(0), 0);
        due("is(1)", x.is(1), 3);
        due("is(2)", x.is(2), 0);
        due("is(3)", x.is(3), 229);
        due("book(-1, 0)", x.book(-1, 0), 0);
        due("of(0, 8), which stays", x.of(0, 8), 253);
        due("undo()", x.undo(), 3);
        due("of(1, 4)", x.of(1, 4), 1);
        due("undo()", x.undo(), 2);
        due("of(1, 4)", x.of(1, 4), 0);
        due("undo()", x.undo(), 1);
        due("of(0, 3)", x.of(0, 3), 15);
        due("undo()", x.undo(), 0);
        due("is(1)", x.is(1), 0);
        due("undo()", x.undo(), -1);
        laterPersons();
        manySteps();
    }

    private static void laterPersons() {
        TollsForLate x = three();
        x.ring(1);
        due("person", x.person(2, 5, 4, 33), 3);
        x.due(3, 44);
        x.bed(3);
        x.day(1);
        x.up(3);
        for (int left = 4; left >= 0; left--) {
            due("undo()", x.undo(), left);
        }
        due("about(0)", x.about(0), 4);
        due("of(3, 3)", x.of(3, 3), 33);
        due("of(3, 4)", x.of(3, 4), 0);
        due("of(3, 0)", x.of(3, 0), 2);
        due("is(1)", x.is(1), 0);
        TollsForLate y = new TollsForLate();
        y.day(1);
        y.person(1, 2, 3, 4);
        y.undo();
        due("of(0, 3)", y.of(0, 3), 4);
        due("of(0, 2)", y.of(0, 2), 3);
    }

    private static void manySteps() {
        TollsForLate x = three();
        for (int i = 0; i < 35; i++) {
            x.due(0, i % 2 == 0 ? 90 : 91);
            x.ring(i % 8);
        }
        due("about(3)", x.about(3), 30);
        for (int left = 29; left >= 0; left--) {
            due("undo()", x.undo(), left);
        }
        due("undo()", x.undo(), -1);
        due("is(1)", x.is(1), 3);
        due("of(0, 3)", x.of(0, 3), 91);
        // The BOOK of 30 comes back, too.
        TollsForLate y = three();
        y.day(50);
        due("book(0, 0)", y.book(0, 0), 20);
        for (int i = 0; i < 10; i++) {
            y.undo();
        }
        due("book(-1, 0)", y.book(-1, 0), 30);
        due("book(0, 0)", y.book(0, 0), 10);
        due("book(29, 0)", y.book(29, 0), 39);
        y.years(5, 40);
        y.undo();
        due("book(0, 0)", y.book(0, 0), 10);
        due("about(3)", y.about(3), 20);
    }

    // ---- what is so ----

    private static void of() {
        promise = 17;
        TollsForLate x = three();
        x.hears(1, 0, false);
        x.ring(1);
        x.bed(0);
        int[] first = {0, 20, 10, 15, 1, 0, 0, 20, 255};
        int[] second = {0, 12, 8, 14, 0, 0, 0, 12, 254};
        int[] third = {1, 30, 25, 20, 0, 0, 1, 25, 255};
        for (int i = 0; i < 9; i++) {
            due("of(0, " + i + ")", x.of(0, i), first[i]);
            due("of(1, " + i + ")", x.of(1, i), second[i]);
            due("of(2, " + i + ")", x.of(2, i), third[i]);
        }
        due("of(0, 9)", x.of(0, 9), -1);
        due("of(0, -1)", x.of(0, -1), -1);
        due("of(3, 0)", x.of(3, 0), -1);
        due("of(-1, 0)", x.of(-1, 0), -1);
        x.day(2);
        due("of(2, 5)", x.of(2, 5), 2);
    }

    private static void is() {
        promise = 18;
        TollsForLate x = three();
        x.day(2);
        due("is(0)", x.is(0), 2);
        due("is(1)", x.is(1), 4);
        due("is(2)", x.is(2), 1);
        due("is(3)", x.is(3), 10992);
        due("is(4)", x.is(4), -2);
        due("is(-1)", x.is(-1), -2);
    }

    private static void book() {
        promise = 19;
        TollsForLate x = three();
        due("book(-1, 0)", x.book(-1, 0), 0);
        due("book(0, 0)", x.book(0, 0), -2);
        x.ring(2);
        x.day(1);
        x.ring(0);
        x.day(1);
        int[][] pages = {{0, 2, 4, 9}, {1, 0, 5, 1}};
        due("book(-1, 0)", x.book(-1, 0), 2);
        for (int i = 0; i < 2; i++) {
            for (int what = 0; what < 4; what++) {
                due("book(" + i + ", " + what + ")", x.book(i, what), pages[i][what]);
            }
        }
        due("book(2, 0)", x.book(2, 0), -2);
        due("book(-2, 0)", x.book(-2, 0), -2);
        due("book(0, 4)", x.book(0, 4), -2);
        due("book(0, -1)", x.book(0, -1), -2);
        x.day(28);
        due("book(0, 0)", x.book(0, 0), 0);
        due("book(-1, 0)", x.book(-1, 0), 30);
        x.day(1);
        due("book(-1, 0)", x.book(-1, 0), 30);
        due("book(0, 0)", x.book(0, 0), 1);
        due("book(0, 2)", x.book(0, 2), 5);
        due("book(29, 0)", x.book(29, 0), 30);
        due("book(30, 0)", x.book(30, 0), -2);
        TollsForLate y = echo(8);
        toDay(y, 9998);
        y.ring(255);
        y.day(1);
        due("book(29, 0)", y.book(29, 0), 9998);
        due("book(29, 1)", y.book(29, 1), 255);
        due("book(29, 2)", y.book(29, 2), 255);
    }

    // ---- III. ----

    private static void foretold() {
        promise = 20;
        TollsForLate x = three();
        due("foretold(3, 0)", x.foretold(3, 0), 4);
        due("foretold(3, 1)", x.foretold(3, 1), 4);
        due("foretold(3, 2)", x.foretold(3, 2), 2);
        due("foretold(1, 0)", x.foretold(1, 0), 5);
        due("foretold(60, 1)", x.foretold(60, 1), 61);
        due("foretold(0, 0)", x.foretold(0, 0), -1);
        due("foretold(61, 0)", x.foretold(61, 0), -1);
        due("foretold(1, 3)", x.foretold(1, 3), -1);
        due("foretold(1, -1)", x.foretold(1, -1), -1);
        due("is(0)", x.is(0), 0);
        due("is(1)", x.is(1), 0);
        due("is(3)", x.is(3), 229);
        due("of(2, 5)", x.of(2, 5), 0);
        due("about(3)", x.about(3), 0);
        due("book(-1, 0)", x.book(-1, 0), 0);
        TollsForLate y = slide(3);
        y.ring(7);
        due("foretold(1, 0)", y.foretold(1, 0), 3);
        due("foretold(2, 0)", y.foretold(2, 0), 1);
        due("foretold(60, 1)", y.foretold(60, 1), 3);
        due("is(1)", y.is(1), 7);
        TollsForLate z = ruled(1, "takes if day>=9998 then 1 else 0 end;");
        toDay(z, 9996);
        due("foretold(2, 1)", z.foretold(2, 1), 0);
        due("foretold(3, 1)", z.foretold(3, 1), 1);
        due("foretold(60, 1)", z.foretold(60, 1), 1);
        toDay(z, 9999);
        due("foretold(5, 0)", z.foretold(5, 0), 1);
        due("foretold(5, 1)", z.foretold(5, 1), 0);
        due("foretold(5, 2)", z.foretold(5, 2), z.is(2));
    }

    private static void late() {
        promise = 21;
        TollsForLate x = three();
        due("late(0)", x.late(0), 5);
        due("late(1)", x.late(1), 4);
        due("late(8)", x.late(8), -1);
        due("late(-1)", x.late(-1), -1);
        x.due(2, 25);
        due("late(7)", x.late(7), 0);
        x.due(2, 24);
        due("late(7)", x.late(7), 4);
        x.bed(2);
        due("late(7)", x.late(7), 0);
        due("late(0)", x.late(0), 1);
        due("late(0) of nobody", new TollsForLate().late(0), 0);
        due("late(1) of nobody", new TollsForLate().late(1), -1);
    }

    private static void runners() {
        promise = 22;
        TollsForLate x = three();
        due("runners(0)", x.runners(0), 0);
        due("runners(4)", x.runners(4), 7);
        due("runners(8)", x.runners(8), -1);
        due("runners(-1)", x.runners(-1), -1);
        x.hears(0, 2, false);
        x.bed(1);
        due("runners(4)", x.runners(4), 4);
        due("runners(5)", x.runners(5), 5);
    }

    private static void settled() {
        promise = 23;
        due("settled(-1) of nobody", new TollsForLate().settled(-1), 1);
        TollsForLate x = three();
        due("settled(-1)", x.settled(-1), 1);
        due("settled(0)", x.settled(0), 4);
        due("settled(1)", x.settled(1), -2);
        due("settled(-2)", x.settled(-2), -2);
        TollsForLate y = carousel();
        due("settled(-1)", y.settled(-1), 2);
        due("settled(0)", y.settled(0), 0);
        due("settled(1)", y.settled(1), 7);
        y.bed(1);
        due("settled(-1)", y.settled(-1), 1);
        due("settled(0)", y.settled(0), 0);
        TollsForLate z = mirror(2);
        due("settled(-1)", z.settled(-1), 0);
        due("settled(0)", z.settled(0), -2);
        due("settled(-1) of eight", echo(8).settled(-1), 256);
        due("settled(255) of eight", echo(8).settled(255), 255);
        due("settled(256) of eight", echo(8).settled(256), -2);
    }

    private static void fewest() {
        promise = 24;
        TollsForLate x = echo(3);
        due("fewest(false)", x.fewest(false), 0);
        due("fewest(true)", x.fewest(true), 7);
        // PERSON 0 is late always; 1 and 2, if it rings for the other one, or neither: of like ones.
        TollsForLate y = ruled(3, "takes if who=0 then 1 else 1-rings(3-who) end;");
        due("settled(-1)", y.settled(-1), 2);
        due("fewest(false)", y.fewest(false), 3);
        due("fewest(true)", y.fewest(true), 3);
        due("fewest(false)", mirror(2).fewest(false), -1);
        due("fewest(true)", mirror(2).fewest(true), -1);
        due("fewest(true) of nobody", new TollsForLate().fewest(true), 0);
    }

    private static void tail() {
        promise = 25;
        TollsForLate x = slide(8);
        due("tail(0)", x.tail(0), 0);
        due("tail(1)", x.tail(1), 1);
        due("tail(128)", x.tail(128), 8);
        due("tail(255)", x.tail(255), 8);
        due("tail(256)", x.tail(256), -1);
        due("tail(-1)", x.tail(-1), -1);
        due("tail(3)", carousel().tail(3), 0);
    }

    private static void round() {
        promise = 26;
        TollsForLate x = carousel();
        due("round(0)", x.round(0), 1);
        due("round(1)", x.round(1), 3);
        due("round(6)", x.round(6), 3);
        due("round(7)", x.round(7), 1);
        due("round(8)", x.round(8), -1);
        due("round(-1)", x.round(-1), -1);
        due("round(5)", mirror(3).round(5), 2);
        due("round(200)", slide(8).round(200), 1);
        // RINGS as a number, one more each time: who is late, if it rings for all below, not for it.
        TollsForLate y = counter();
        due("round(0)", y.round(0), 256);
        due("round(200)", y.round(200), 256);
    }

    /** RINGS as a number of eight bits: one more each time, the longest round that there can be. */
    private static TollsForLate counter() {
        StringBuilder law = new StringBuilder("takes if who*(1-rings 0)<1");
        for (int p = 1; p < 7; p++) {
            law.append(" and (who-" + p + ")*(1-rings " + p + ")<1");
        }
        return ruled(8, law + " then 1-rings who else rings who end;");
    }

    private static void rounds() {
        promise = 27;
        due("rounds() of nobody", new TollsForLate().rounds(), 1);
        due("rounds()", three().rounds(), 1);
        due("rounds()", carousel().rounds(), 4);
        due("rounds()", mirror(3).rounds(), 4);
        due("rounds()", echo(8).rounds(), 256);
        due("rounds()", slide(8).rounds(), 1);
        due("rounds()", counter().rounds(), 1);
    }

    private static void basin() {
        promise = 28;
        TollsForLate x = slide(3);
        due("basin(0)", x.basin(0), 8);
        due("basin(1)", x.basin(1), 7);
        due("basin(2)", x.basin(2), 3);
        due("basin(7)", x.basin(7), 1);
        due("basin(8)", x.basin(8), -1);
        due("basin(-1)", x.basin(-1), -1);
        due("basin(1)", carousel().basin(1), 3);
        due("basin(7)", carousel().basin(7), 1);
        due("basin(17)", counter().basin(17), 256);
    }

    private static void never() {
        promise = 29;
        due("never() of nobody", new TollsForLate().never(), 0);
        due("never()", three().never(), 6);
        due("never()", slide(8).never(), 128);
        due("never()", carousel().never(), 0);
        due("never()", echo(4).never(), 0);
    }

    private static void after() {
        promise = 30;
        TollsForLate x = carousel();
        due("after(1, 0)", x.after(1, 0), 1);
        due("after(1, 1)", x.after(1, 1), 4);
        due("after(1, 2)", x.after(1, 2), 2);
        due("after(1, 60)", x.after(1, 60), 1);
        due("after(1, 59)", x.after(1, 59), 2);
        due("after(1, 61)", x.after(1, 61), -1);
        due("after(1, -1)", x.after(1, -1), -1);
        due("after(8, 1)", x.after(8, 1), -1);
        due("after(-1, 1)", x.after(-1, 1), -1);
    }

    private static void times() {
        promise = 31;
        TollsForLate x = carousel();
        due("times(1, 1)", x.times(1, 1), 0);
        due("times(1, 4)", x.times(1, 4), 1);
        due("times(1, 2)", x.times(1, 2), 2);
        due("times(1, 3)", x.times(1, 3), -1);
        due("times(8, 1)", x.times(8, 1), -1);
        due("times(1, 8)", x.times(1, 8), -1);
        due("times(-1, 1)", x.times(-1, 1), -1);
        due("times(1, -1)", x.times(1, -1), -1);
        due("times(1, 0)", counter().times(1, 0), 255);
        due("times(0, 255)", counter().times(0, 255), 255);
    }

    private static void apart() {
        promise = 32;
        TollsForLate x = slide(8);
        due("apart(5, 5)", x.apart(5, 5), 0);
        due("apart(2, 3)", x.apart(2, 3), 1);
        due("apart(0, 128)", x.apart(0, 128), 8);
        due("apart(128, 0)", x.apart(128, 0), 8);
        due("apart(64, 128)", x.apart(64, 128), 8);
        due("apart(256, 0)", x.apart(256, 0), -1);
        due("apart(0, 256)", x.apart(0, 256), -1);
        due("apart(-1, 0)", x.apart(-1, 0), -1);
        due("apart(0, -1)", x.apart(0, -1), -1);
        due("apart(1, 2)", carousel().apart(1, 2), -1);
        due("apart(1, 2)", echo(2).apart(1, 2), -1);
    }

    private static void always() {
        promise = 33;
        due("always() of nobody", new TollsForLate().always(), 1);
        due("always()", echo(3).always(), 8);
        due("always()", mirror(3).always(), 0);
        TollsForLate x = ruled(2, "takes if weather=9 then who else rings who end;");
        due("settled(-1)", x.settled(-1), 4);
        due("always()", x.always(), 1);
        TollsForLate y = ruled(2, "takes if weather=0 then who else rings who end;");
        due("settled(-1)", y.settled(-1), 1);
        due("always()", y.always(), 1);
        due("always()", ruled(2, "takes weather/9;").always(), 0);
        due("settled(-1) behind always()", x.settled(-1), 4);
        due("always() of WEATHERS 0 .. 9",
                ruled(2, "takes if weather>9 then 1-rings who else rings who end;").always(), 4);
    }

    private static void calm() {
        promise = 34;
        due("calm(true) of nobody", new TollsForLate().calm(true), 0);
        due("calm(false)", three().calm(false), 1);
        due("calm(true)", three().calm(true), 0);
        due("calm(false)", mirror(3).calm(false), 7);
        due("calm(true)", mirror(3).calm(true), 0);
        due("calm(false)", echo(3).calm(false), 0);
        due("calm(true)", echo(3).calm(true), 7);
        due("calm(true)", slide(3).calm(true), 6);
        due("calm(false)", slide(3).calm(false), 0);
    }

    private static void helped() {
        promise = 35;
        TollsForLate x = mirror(3);
        due("helped(5, false)", x.helped(5, false), 5);
        due("helped(5, true)", x.helped(5, true), 0);
        TollsForLate y = echo(3);
        due("helped(6, false)", y.helped(6, false), 0);
        due("helped(6, true)", y.helped(6, true), 6);
        due("helped(0, true)", y.helped(0, true), 0);
        due("helped(8, true)", y.helped(8, true), -1);
        due("helped(-1, false)", y.helped(-1, false), -1);
        due("helped(4, false)", three().helped(4, false), 1);
        // One is helped and the other one harmed.
        TollsForLate z = ruled(2, "takes if who=0 then rings 0 else 1-rings 1 end;");
        due("helped(3, false)", z.helped(3, false), 2);
        due("helped(3, true)", z.helped(3, true), 1);
    }

    private static void early() {
        promise = 36;
        TollsForLate x = three();
        due("early(0)", x.early(0), 2);
        due("early(2)", x.early(2), 11);
        due("early(8)", x.early(8), -1);
        due("early(-1)", x.early(-1), -1);
        x.bed(1);
        due("early(0)", x.early(0), 0);
        due("early(2)", x.early(2), 5);
        due("early(0) of nobody", new TollsForLate().early(0), 0);
    }

    private static void weathers() {
        promise = 37;
        TollsForLate x = ruled(2, "takes if weather>6 then 1 else rings who*who end;");
        due("weathers(0)", x.weathers(0), 3);
        due("weathers(1)", x.weathers(1), 3);
        x.ring(3);
        due("weathers(0)", x.weathers(0), 3);
        due("weathers(1)", x.weathers(1), 10);
        due("weathers(2)", x.weathers(2), -1);
        due("weathers(-1)", x.weathers(-1), -1);
        x.bed(1);
        due("weathers(1)", x.weathers(1), 0);
        due("is(2)", x.is(2), 0);
        due("late(3)", x.late(3), 0);
        due("weathers of 0 alone", ruled(1, "takes 1-weather;").weathers(0), 1);
        due("weathers of 9 alone", ruled(1, "takes weather/9;").weathers(0), 1);
        due("weathers of 10", ruled(1, "takes weather/10;").weathers(0), 0);
    }

    private static void needless() {
        promise = 38;
        TollsForLate x = three();
        due("needless()", x.needless(), 0);
        x.ring(1);
        due("needless()", x.needless(), 2);
        x.due(0, 20);
        due("needless()", x.needless(), 3);
        x.due(0, 19);
        due("needless()", x.needless(), 2);
        x.bed(1);
        due("needless()", x.needless(), 0);
        // The others run as they do: with two others on the ROAD walking takes one minute more.
        TollsForLate y = new TollsForLate();
        for (int i = 0; i < 3; i++) {
            y.person(0, 20, 10, 20);
        }
        y.ring(7);
        due("needless()", y.needless(), 0);
        y.bed(2);
        due("needless()", y.needless(), 3);
    }

    private static void lateness() {
        promise = 39;
        TollsForLate x = three();
        due("lateness(1)", x.lateness(1), 0);
        due("lateness(2)", x.lateness(2), 1);
        due("lateness(0)", x.lateness(0), 4);
        due("lateness(3)", x.lateness(3), -1);
        due("lateness(-1)", x.lateness(-1), -1);
        x.bed(2);
        due("lateness(2) in bed", x.lateness(2), 0);
        // It runs, and would be in time, were it to walk.
        TollsForLate y = new TollsForLate();
        y.person(0, 10, 20, 15);
        y.ring(1);
        due("lateness(0)", y.lateness(0), 2);
        y.due(0, 9);
        due("lateness(0)", y.lateness(0), 1);
        // By the jam of two others it is late; alone it would not be.
        TollsForLate z = new TollsForLate();
        z.person(0, 50, 20, 20);
        z.person(0, 50, 20, 30);
        z.person(0, 50, 20, 30);
        z.hears(1, 0, false);
        z.hears(2, 0, false);
        z.ring(2);
        due("lateness(0)", z.lateness(0), 3);
        z.due(0, 21);
        due("lateness(0)", z.lateness(0), 0);
        // One that walks: not 2, though it would walk in time without a jam, but 3.
        TollsForLate w = new TollsForLate();
        w.person(0, 20, 10, 20);
        w.person(0, 50, 20, 30);
        w.person(0, 50, 20, 30);
        w.hears(0, 1, false);
        w.ring(2);
        due("lateness(0)", w.lateness(0), 3);
        // One other is enough by this law, and none would be.
        TollsForLate v = ruled(2, "takes jam;");
        v.ring(1);
        due("lateness(0)", v.lateness(0), 3);
        TollsForLate u = ruled(2, "takes jam+fast;");
        u.ring(1);
        due("lateness(0)", u.lateness(0), 4);
        TollsForLate t = ruled(2, "takes fast;");
        t.ring(1);
        due("lateness(0)", t.lateness(0), 2);
    }

    private static void race() {
        promise = 40;
        TollsForLate x = three();
        due("race(0, false)", x.race(0, false), -1);
        due("race(4, false)", x.race(4, false), -1);
        due("race(-1, true)", x.race(-1, true), -1);
        due("race(3, false)", x.race(3, false), 1);
        due("race(1, false)", x.race(1, false), 2);
        due("race(1, true)", x.race(1, true), 0);
        TollsForLate y = echo(4);
        due("race(1, false)", y.race(1, false), 1);
        due("race(1, true)", y.race(1, true), 1);
        due("race(4, false)", y.race(4, false), 2);
        due("race(4, true)", y.race(4, true), 1);
        // Late are both, if RINGS are alike for 0 and 1: the second sees what the first has chosen.
        TollsForLate z = ruled(2, "takes if rings 0=rings 1 then 1 else 0 end;");
        due("race(2, false)", z.race(2, false), 0);
        due("race(2, true)", z.race(2, true), 0);
        due("race(1, false)", z.race(1, false), 2);
        due("race(1, true)", z.race(1, true), 0);
        // Of three the last one wants many, and sees all.
        TollsForLate w = ruled(3, "takes if rings 1=rings 2 then 1 else rings 0 end;");
        due("race(3, false)", w.race(3, false), 3);
        due("race(2, false)", w.race(2, false), 3);
        due("race(2, true)", w.race(2, true), 1);
        due("race(3, true)", w.race(3, true), 0);
        due("race of nobody", new TollsForLate().race(1, false), -1);
    }

    // ---- IV. ----

    private static void heard() {
        promise = 41;
        TollsForLate x = three();
        due("heard(3, true)", x.heard(3, true), -2);
        due("heard(-2, true)", x.heard(-2, true), -2);
        due("heard(-1, true)", x.heard(-1, true), 0);
        for (int i = 1; i <= 8; i++) {
            due("heard", x.heard(i % 3, i == 2), i);
        }
        due("the ninth", x.heard(0, true), -2);
        due("about(4)", x.about(4), 8);
        due("heard(-1, false)", x.heard(-1, false), 0);
        due("about(4)", x.about(4), 0);
        due("heard(2, true)", x.heard(2, true), 1);
        due("believes(2, false)", x.believes(2, false), 1);
    }

    private static void believes() {
        promise = 42;
        TollsForLate x = echo(4);
        due("believes(0, false)", x.believes(0, false), 1);
        due("believes(0, true)", x.believes(0, true), 2);
        x.heard(0, true);
        due("believes(0, false)", x.believes(0, false), 1);
        due("believes(0, true)", x.believes(0, true), 1);
        x.heard(1, false);
        due("believes(1, false)", x.believes(1, false), 0);
        due("believes(1, true)", x.believes(1, true), 1);
        due("believes(4, true)", x.believes(4, true), -1);
        due("believes(-1, true)", x.believes(-1, true), -1);
        x.heard(1, true);
        due("believes(0, false)", x.believes(0, false), -1);
        due("believes(0, true)", x.believes(0, true), -1);
        // 0, 1, 2, 4 are settled, and 7 of 8: those with at most one late.
        TollsForLate y = ruled(3, "takes if rings 0+rings 1+rings 2<2 then rings who else 0 end;");
        due("settled(-1)", y.settled(-1), 4);
        due("believes(1, false)", y.believes(1, false), 1);
        due("believes(1, true)", y.believes(1, true), 4);
        y.heard(0, false);
        due("believes(1, false)", y.believes(1, false), 1);
        due("believes(1, true)", y.believes(1, true), 3);
        due("believes(0, false)", mirror(2).believes(0, false), -1);
        // 6 of 8 days: 3 of 4.
        TollsForLate z = ruled(4, "takes if rings 3=1 or rings 0+rings 1+rings 2=0 then rings who"
                + " else 0 end;");
        due("settled(-1)", z.settled(-1), 9);
        due("believes(3, false)", z.believes(3, false), 8);
        due("believes(3, true)", z.believes(3, true), 9);
        due("believes(0, false)", z.believes(0, false), 4);
        due("believes(0, true)", z.believes(0, true), 9);
        z.heard(3, true);
        due("believes(0, true)", z.believes(0, true), 2);
    }

    private static void sure() {
        promise = 43;
        TollsForLate x = three();
        due("sure(true)", x.sure(true), 4);
        due("sure(false)", x.sure(false), 3);
        TollsForLate y = echo(3);
        due("sure(true)", y.sure(true), 0);
        due("sure(false)", y.sure(false), 0);
        y.heard(1, true);
        y.heard(2, false);
        due("sure(true)", y.sure(true), 2);
        due("sure(false)", y.sure(false), 4);
        y.heard(1, false);
        due("sure(true)", y.sure(true), -1);
        due("sure(false)", y.sure(false), -1);
        due("sure(false) of nobody", new TollsForLate().sure(false), 0);
        due("sure(true) of nobody", new TollsForLate().sure(true), 0);
    }

    private static void tells() {
        promise = 44;
        due("tells(0)", three().tells(0), -1);
        due("tells(1)", three().tells(1), 0);
        due("tells(1) of no days", mirror(1).tells(1), 0);
        due("tells(0) of no days", mirror(1).tells(0), -1);
        TollsForLate x = echo(4);
        due("tells(0) of 16", x.tells(0), -1);
        due("tells(1) of 16", x.tells(1), -1);
        x.heard(0, true);
        due("tells(0) of 8", x.tells(0), 1);
        due("tells(1) of 8", x.tells(1), 3);
        due("tells(2)", x.tells(2), -1);
        due("tells(-1)", x.tells(-1), -1);
        x.heard(1, true);
        x.heard(2, true);
        due("tells(0) of 2", x.tells(0), 3);
        due("tells(1) of 2", x.tells(1), 1);
        // At most one of eight is late, 9 days: all eight must be asked.
        TollsForLate y = ruled(8, "takes if rings 0+rings 1+rings 2+rings 3+rings 4+rings 5+rings 6"
                + "+rings 7<2 then rings who else 0 end;");
        due("settled(-1)", y.settled(-1), 9);
        due("tells(1)", y.tells(1), 8);
        due("tells(0)", y.tells(0), 0);
        y.heard(0, false);
        due("tells(1)", y.tells(1), 7);
        due("tells(0)", y.tells(0), 1);
        // 0, 1, 3, 7: to ask 1 first halves them.
        TollsForLate z = ruled(3, "takes if rings 1<=rings 0 and rings 2<=rings 1 then rings who"
                + " else 0 end;");
        due("settled(-1)", z.settled(-1), 4);
        due("tells(0)", z.tells(0), 1);
        due("tells(1)", z.tells(1), 2);
        // 12 days are asked about, 13 are not.
        TollsForLate v = ruled(4, "takes if rings 0+rings 1*2+rings 2*4+rings 3*8<12 then rings who"
                + " else 0 end;");
        due("settled(-1)", v.settled(-1), 12);
        due("tells(1)", v.tells(1), 4);
        due("tells(0)", v.tells(0), 0);
        TollsForLate w = ruled(4, "takes if rings 0+rings 1*2+rings 2*4+rings 3*8<13 then rings who"
                + " else 0 end;");
        due("settled(-1)", w.settled(-1), 13);
        due("tells(1)", w.tells(1), -1);
    }

    private static void asleep() {
        promise = 45;
        due("asleep(false) of nobody", new TollsForLate().asleep(false), 0);
        due("asleep(true) of nobody", new TollsForLate().asleep(true), 0);
        TollsForLate x = three();
        due("asleep(false)", x.asleep(false), 5);
        due("asleep(true)", x.asleep(true), 2);
        x.bed(1);
        due("asleep(false)", x.asleep(false), 7);
        due("asleep(true)", x.asleep(true), 3);
        due("asleep(false) of none late", echo(3).asleep(false), 0);
        due("asleep(false) of all", mirror(3).asleep(false), 7);
        // All run always; one is late, if two others run: any one of three IN BED helps all.
        TollsForLate y = ruled(3, "runs 1;takes jam/2;");
        due("asleep(false)", y.asleep(false), 1);
        due("asleep(true)", y.asleep(true), 1);
        y.bed(2);
        due("asleep(false)", y.asleep(false), 4);
        due("about(3)", y.about(3), 1);
        due("of(0, 4)", y.of(0, 4), 0);
        // RINGS as now don't matter.
        TollsForLate z = echo(2);
        z.ring(3);
        due("asleep(false)", z.asleep(false), 0);
        // Two that are high are fewer than three that are low.
        TollsForLate w = ruled(5, "runs 1;takes if who<3 then jam/3 else 1 end;");
        due("asleep(false)", w.asleep(false), 24);
        due("asleep(true)", w.asleep(true), 2);
    }

    private static void slack() {
        promise = 46;
        TollsForLate x = three();
        due("slack(0)", x.slack(0), -5);
        due("slack(1)", x.slack(1), 2);
        due("slack(3)", x.slack(3), -1000);
        due("slack(-1)", x.slack(-1), -1000);
        x.ring(4);
        due("slack(0)", x.slack(0), 5);
        due("slack(2)", x.slack(2), -5);
        due("slack", ruled(1, "takes 9999;").slack(0), -999);
        x.bed(0);
        due("slack(0) in bed", x.slack(0), -5);
    }

    private static void least() {
        promise = 47;
        TollsForLate x = three();
        due("least(2)", x.least(2), 30);
        x.ring(1);
        due("least(2)", x.least(2), 25);
        due("least(3)", x.least(3), -1);
        due("least(-1)", x.least(-1), -1);
        due("least", ruled(1, "takes 99;").least(0), 99);
        due("least", ruled(1, "takes 100;").least(0), 99);
        due("least", ruled(1, "takes -1;").least(0), 0);
    }

    private static void moves() {
        promise = 48;
        TollsForLate x = three();
        due("moves(1, 0)", x.moves(1, 0), 1);
        due("moves(0, 0)", x.moves(0, 0), 1);
        due("moves(1, 2)", x.moves(1, 2), 0);
        x.ring(4);
        due("moves(1, 0)", x.moves(1, 0), 0);
        due("moves(2, 0)", x.moves(2, 0), 1);
        due("moves(3, 0)", x.moves(3, 0), -1);
        due("moves(0, 3)", x.moves(0, 3), -1);
        due("moves(-1, 0)", x.moves(-1, 0), -1);
        due("moves(0, -1)", x.moves(0, -1), -1);
        due("is(1)", x.is(1), 4);
        // What was asked before leaves nothing behind.
        TollsForLate y = ruled(2, "takes if weather>0 then 1 else rings 0 end;");
        y.weathers(0);
        due("moves(0, 1) behind weathers", y.moves(0, 1), 1);
        y.asleep(true);
        due("moves(0, 1) behind asleep", y.moves(0, 1), 1);
        write(y, "takes 5;");
        y.whose();
        due("moves(0, 1) behind whose", y.moves(0, 1), 1);
        y.foretold(1, 0);
        due("moves(0, 1) behind foretold", y.moves(0, 1), 1);
    }

    private static void said() {
        promise = 49;
        TollsForLate x = three();
        due("said(3, 1)", x.said(3, 1), -2);
        due("said(-2, 1)", x.said(-2, 1), -2);
        due("said(0, 1000)", x.said(0, 1000), -2);
        due("said(0, -1)", x.said(0, -1), -2);
        due("said(0, 0)", x.said(0, 0), 1);
        due("said(0, 999)", x.said(0, 999), 2);
        for (int i = 3; i <= 8; i++) {
            due("said", x.said(1, 5), i);
        }
        due("the ninth", x.said(1, 5), -2);
        due("about(5)", x.about(5), 8);
        due("said(-1, 0)", x.said(-1, 0), 0);
        due("about(5)", x.about(5), 0);
        due("said(2, 4)", x.said(2, 4), 1);
    }

    private static void whose() {
        promise = 50;
        TollsForLate x = three();
        due("whose()", x.whose(), 0);
        write(x, "takes 20;");
        write(x, "takes walk;");
        write(x, "runs 1;");
        write(x, "bed 0;");
        due("whose() of nothing said", x.whose(), 15);
        x.said(0, 20);
        due("whose()", x.whose(), 11);
        x.said(2, 30);
        due("whose()", x.whose(), 10);
        x.said(-1, 0);
        x.said(0, 10);
        due("whose()", x.whose(), 4);
        x.ring(1);
        due("whose()", x.whose(), 12);
        x.said(2, 26);
        due("whose()", x.whose(), 0);
        due("about(2)", x.about(2), -1);
        due("late(0)", x.late(0), 5);
    }

    private static void latest() {
        promise = 51;
        due("latest() of nobody", new TollsForLate().latest(), -1);
        TollsForLate x = three();
        due("latest()", x.latest(), -1);
        x.day(1);
        due("latest()", x.latest(), 0);
        x.day(1);
        due("latest()", x.latest(), 2);
        x.undo();
        x.undo();
        due("latest()", x.latest(), -1);
    }

    private static void crowded() {
        promise = 52;
        due("crowded() of nobody", new TollsForLate().crowded(), 0);
        TollsForLate x = new TollsForLate();
        x.person(3, 1, 1, 1);
        x.person(2, 1, 1, 1);
        x.person(3, 1, 1, 1);
        due("crowded()", x.crowded(), 0);
        x.ring(1);
        due("crowded()", x.crowded(), 3);
        x.bed(2);
        due("crowded()", x.crowded(), 2);
        x.hears(1, 0, false);
        due("crowded()", x.crowded(), 3);
    }

    private static void deaf() {
        promise = 53;
        TollsForLate x = three();
        due("deaf()", x.deaf(), 0);
        for (int q = 0; q < 3; q++) {
            x.hears(1, q, false);
        }
        due("deaf()", x.deaf(), 2);
        for (int q = 0; q < 3; q++) {
            x.hears(5, q, false);
        }
        due("deaf()", x.deaf(), 2);
        x.person(0, 1, 1, 1);
        due("deaf(), for it hears the one told since", x.deaf(), 0);
        for (int q = 0; q < 4; q++) {
            x.hears(0, q, false);
            x.hears(3, q, false);
        }
        due("deaf()", x.deaf(), 9);
        due("deaf() of nobody", new TollsForLate().deaf(), 0);
    }

    private static void ledger() {
        promise = 54;
        TollsForLate x = three();
        due("ledger(-1)", x.ledger(-1), 0);
        x.day(3);
        due("ledger(0)", x.ledger(0), 1);
        due("ledger(1)", x.ledger(1), 0);
        due("ledger(2)", x.ledger(2), 3);
        due("ledger(-1)", x.ledger(-1), 4);
        due("ledger(3)", x.ledger(3), -2);
        due("ledger(-2)", x.ledger(-2), -2);
        x.day(40);
        due("ledger(0), of 30 days", x.ledger(0), 0);
        due("ledger(2)", x.ledger(2), 30);
        due("ledger(-1)", x.ledger(-1), 30);
    }

    // ---- V. ----

    private static void image() {
        promise = 55;
        TollsForLate x = three();
        x.day(7);
        due("image()", x.image(), 7);
        x.day(2);
        due("back()", x.back(), 7);
        x.day(3);
        due("image()", x.image(), 10);
        x.day(3);
        due("back()", x.back(), 10);
        due("is(0)", x.is(0), 10);
        due("about(3)", x.about(3), 10);
    }

    private static void back() {
        promise = 56;
        TollsForLate x = three();
        write(x, "takes 7;");
        x.by(0);
        x.hears(0, 1, false);
        x.ring(3);
        x.bed(2);
        x.due(1, 60);
        x.day(33);
        x.heard(1, true);
        x.said(1, 17);
        load(x, "day 1;");
        due("image()", x.image(), 33);
        long before = portrait(x);
        write(x, "runs 1;");
        x.by(1);
        x.person(3, 9, 9, 9);
        x.hears(0, 2, false);
        x.hears(7, 2, false);
        x.up(2);
        x.years(17, 40);
        x.heard(-1, true);
        x.said(2, 18);
        load(x, "up 9;");
        due("text()", x.text(), -1);
        load(x, "up");
        due("back()", x.back(), 33);
        due("what is so", portrait(x), before);
        due("fault(0), which no image holds", x.fault(0), 2);
        due("about(6), which no image holds", x.about(6), 2);
        // What is done behind it doesn't touch the image: back once more.
        x.undo();
        x.undo();
        x.day(5);
        x.person(1, 8, 8, 8);
        write(x, "takes 9;");
        due("back()", x.back(), 33);
        due("what is so", portrait(x), before);
        due("person", x.person(2, 5, 6, 7), 3);
        due("of(3, 8)", x.of(3, 8), 255);
        due("text", write(x, "takes 8;"), 1);
        due("late(0)", x.late(0), 0);
        x.by(1);
        due("of(0, 7)", x.of(0, 7), 8);
        for (int i = 0; i < 30; i++) {
            x.undo();
        }
        due("is(0)", x.is(0), 3);
        due("of(3, 3)", x.of(3, 3), 7);
        backToWords();
    }

    /** What was HEARD and SAID stands as it was, though others stood there since. */
    private static void backToWords() {
        TollsForLate x = echo(2);
        x.heard(0, true);
        x.heard(1, false);
        x.said(0, 0);
        x.said(1, 1);
        x.ring(2);
        due("whose()", x.whose(), 1);
        x.image();
        x.heard(-1, true);
        x.heard(1, true);
        x.heard(0, false);
        x.said(-1, 0);
        x.said(1, 7);
        x.said(0, 9);
        due("sure(true)", x.sure(true), 2);
        due("whose()", x.whose(), 0);
        x.back();
        due("sure(true)", x.sure(true), 1);
        due("sure(false)", x.sure(false), 2);
        due("whose()", x.whose(), 1);
    }

    /** Much of what is so, in one number. */
    private static long portrait(TollsForLate x) {
        long sum = 17;
        for (int i = 0; i < 6; i++) {
            sum = sum * 31 + x.about(i);
        }
        for (int i = 0; i < 4; i++) {
            sum = sum * 31 + x.is(i);
        }
        for (int p = 0; p < 8; p++) {
            for (int what = 0; what < 9; what++) {
                sum = sum * 31 + x.of(p, what);
            }
        }
        for (int i = -1; i < 31; i++) {
            sum = sum * 31 + x.book(i, 0) + 7L * x.book(i, 2) + 99L * x.book(i, 3);
        }
        sum = sum * 31 + x.late(0) + 7L * x.late(3) + 9L * x.whose() + 11L * x.believes(1, true);
        return sum * 31 + x.whose();
    }

    private static void about() {
        promise = 57;
        TollsForLate x = three();
        write(x, "");
        write(x, "");
        x.by(1);
        x.ring(1);
        x.ring(2);
        x.ring(3);
        x.ring(4);
        x.heard(0, true);
        for (int i = 0; i < 6; i++) {
            x.said(0, i);
        }
        x.feed(0, 0, 0, 0, 0);
        int[] about = {3, 2, 1, 4, 1, 6, 20};
        for (int i = 0; i < 7; i++) {
            due("about(" + i + ")", x.about(i), about[i]);
        }
        due("about(7)", x.about(7), -2);
        due("about(-1)", x.about(-1), -2);
        x.by(-1);
        due("about(2)", x.about(2), -1);
        due("NONE", TollsForLate.NONE, -1);
    }

    public static void main(String[] args) {
        newObject();
        person();
        hears();
        feed();
        end();
        text();
        fault();
        by();
        ring();
        putOff();
        bed();
        up();
        day();
        played();
        years();
        undo();
        of();
        is();
        book();
        foretold();
        late();
        runners();
        settled();
        fewest();
        tail();
        round();
        rounds();
        basin();
        never();
        after();
        times();
        apart();
        always();
        calm();
        helped();
        early();
        weathers();
        needless();
        lateness();
        race();
        heard();
        believes();
        sure();
        tells();
        asleep();
        slack();
        least();
        moves();
        said();
        whose();
        latest();
        crowded();
        deaf();
        ledger();
        image();
        back();
        about();
        System.out.println(wrong == 0 ? checks + " answers are as due"
                : wrong + " of " + checks + " answers are not as due");
        if (wrong != 0) {
            System.exit(1);
        }
    }
}
