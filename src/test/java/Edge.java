import java.io.IOException;
import java.nio.charset.StandardCharsets;
import java.nio.file.Files;
import java.nio.file.Path;
import java.util.ArrayList;
import java.util.List;
import java.util.Set;
import java.util.TreeSet;

/**
 * What the tests of boundary cases share: each names the words of the document that it holds the
 * class to, and each refused call is held against a twin to which it was not made.
 */
final class Edge {
    /** A call, whose answer is a number (a boolean counts 1 or 0). */
    interface Call {
        long on(TollsForLate x);
    }

    /** How a town comes to be; each time anew. */
    interface Recipe {
        TollsForLate town();
    }

    private static int wrong = 0;
    private static int checks = 0;
    private static String words = "";
    private static final Set<String> fragments = new TreeSet<>();
    private static final Set<String> sentences = new TreeSet<>();

    private Edge() {
    }

    /** The test that follows is of these words of the terms and of the parts II to V. */
    static void of(String fragment) {
        words = fragment;
        fragments.add(plain(fragment));
    }

    /** The test that follows is of this sentence of a promise. */
    static void of(int promise, String sentence) {
        words = "promise " + promise + ": " + sentence;
        sentences.add(plain(words));
    }

    static int bit(boolean answer) {
        return answer ? 1 : 0;
    }

    static void due(String call, long got, long want) {
        checks++;
        if (got != want) {
            wrong++;
            System.out.println("[" + words + "] " + call + " answered " + got + ", due is " + want);
        }
    }

    static void due(String call, boolean got, boolean want) {
        due(call, bit(got), bit(want));
    }

    /** The call answers so, and nothing is done: all later calls answer as those of a twin. */
    static void refused(String what, Recipe recipe, Call call, long want) {
        TollsForLate x = recipe.town();
        due(what, call.on(x), want);
        alike("behind " + what, x, recipe.town());
    }

    /** All that can be seen of both, then what taking back, telling, going back and reading show. */
    static void alike(String what, TollsForLate x, TollsForLate y) {
        List<String> shown = portrait(x);
        List<String> wanted = portrait(y);
        checks++;
        for (int i = 0; i < Math.min(shown.size(), wanted.size()); i++) {
            if (!shown.get(i).equals(wanted.get(i))) {
                wrong++;
                System.out.println("[" + words + "] " + what + ": " + shown.get(i) + ", due is "
                        + wanted.get(i));
                return;
            }
        }
    }

    private static List<String> portrait(TollsForLate x) {
        List<String> seen = new ArrayList<>();
        asItIs(seen, x);
        for (int left = x.about(3); left > 0; left--) {
            seen.add("undo() = " + x.undo() + " to RINGS " + x.is(1) + " of DAY " + x.is(0));
        }
        seen.add("undo() of none = " + x.undo());
        people(seen, x);
        for (int p = x.about(0); p < 8; p++) {
            seen.add("person = " + x.person(p % 4, 9, 5, 7) + " hears " + x.of(p, 8) + ", due "
                    + x.of(p, 3) + ", in bed " + x.of(p, 4) + ", late " + x.of(p, 5));
        }
        seen.add("back() = " + x.back());
        for (int what = 0; what < 7; what++) {
            seen.add("about(" + what + ") behind back() = " + x.about(what));
        }
        seen.add("text() = " + x.text() + " with " + x.fault(0) + " at " + x.fault(1));
        return seen;
    }

    private static void asItIs(List<String> seen, TollsForLate x) {
        for (int what = 0; what < 7; what++) {
            seen.add("about(" + what + ") = " + x.about(what));
        }
        seen.add("fault = " + x.fault(0) + " at " + x.fault(1));
        for (int what = 0; what < 4; what++) {
            seen.add("is(" + what + ") = " + x.is(what));
        }
        people(seen, x);
        int pages = x.book(-1, 0);
        seen.add("book(-1, 0) = " + pages);
        for (int i : new int[] {0, 1, pages - 2, pages - 1}) {
            for (int what = 0; what < 4 && i >= 0; what++) {
                seen.add("book(" + i + ", " + what + ") = " + x.book(i, what));
            }
        }
        seen.add("sure(true) = " + x.sure(true));
        seen.add("sure(false) = " + x.sure(false));
        seen.add("whose() = " + x.whose());
        seen.add("late(0) = " + x.late(0));
        seen.add("ledger(-1) = " + x.ledger(-1));
    }

    private static void people(List<String> seen, TollsForLate x) {
        for (int p = 0; p < x.about(0); p++) {
            for (int what = 0; what < 9; what++) {
                seen.add("of(" + p + ", " + what + ") = " + x.of(p, what));
            }
        }
    }

    // ---- texts ----

    static void load(TollsForLate x, String text) {
        x.end(0);
        for (int i = 0; i < text.length(); i += 20) {
            int[] w = new int[5];
            for (int j = 0; j < 20 && i + j < text.length(); j++) {
                w[j / 4] |= (text.charAt(i + j) & 255) << 24 - j % 4 * 8;
            }
            x.feed(w[0], w[1], w[2], w[3], w[4]);
        }
        x.end(text.length());
    }

    static int write(TollsForLate x, String text) {
        load(x, text);
        return x.text();
    }

    /** What is read: a FAULT (0 without) and its place, and the text's number or NONE. */
    static void reads(String text, int fault, int place) {
        TollsForLate x = new TollsForLate();
        due("text() of '" + text + "'", write(x, text), fault == 0 ? 0 : -1);
        due("fault(0) of '" + text + "'", x.fault(0), fault);
        due("fault(1) of '" + text + "'", x.fault(1), place);
        due("about(1) behind '" + text + "'", x.about(1), fault == 0 ? 1 : 0);
    }

    static void stands(String text) {
        reads(text, 0, -1);
    }

    /** What a SUM says of takes, so that both its sides show: takes itself hides what is below 0. */
    static int value(String sum) {
        TollsForLate x = ruled(1, "takes " + sum + ";");
        return x.of(0, 7);
    }

    static void holds(String ask, boolean want) {
        due(ask, value("if " + ask + " then 1 else 0 end"), bit(want));
    }

    // ---- towns ----

    static TollsForLate people(int n) {
        TollsForLate x = new TollsForLate();
        for (int i = 0; i < n; i++) {
            x.person(0, 1, 1, 0);
        }
        return x;
    }

    /** So many PERSONS with DUE 0 on ROAD 0, ruled by this text. */
    static TollsForLate ruled(int persons, String law) {
        TollsForLate x = people(persons);
        due("text() of " + law, write(x, law), 0);
        x.by(0);
        return x;
    }

    /** Late by no rings are 0 and 2, by any rings 2 alone. */
    static TollsForLate three() {
        TollsForLate x = new TollsForLate();
        x.person(0, 20, 10, 15);
        x.person(0, 12, 8, 14);
        x.person(1, 30, 25, 20);
        return x;
    }

    /** A PERSON is late if it rings for it: all RINGS are settled. */
    static TollsForLate echo(int persons) {
        return ruled(persons, "takes rings who;");
    }

    /** A PERSON is late if it does not ring for it: no RINGS are settled. */
    static TollsForLate mirror(int persons) {
        return ruled(persons, "takes 1-rings who;");
    }

    /** A PERSON is late if it rings for the next one: RINGS die out. */
    static TollsForLate slide(int persons) {
        return ruled(persons, "takes rings(who+1);");
    }

    /** RINGS as a number of eight bits, one more each time: the longest round that there can be. */
    static TollsForLate counter() {
        StringBuilder law = new StringBuilder("takes if who*(1-rings 0)<1");
        for (int p = 1; p < 7; p++) {
            law.append(" and (who-" + p + ")*(1-rings " + p + ")<1");
        }
        return ruled(8, law + " then 1-rings who else rings who end;");
    }

    /** Of four PERSONS so many RINGS are settled, those of the least bits. */
    static TollsForLate firstSettled(int days) {
        return ruled(4, "takes if rings 0+rings 1*2+rings 2*4+rings 3*8<" + days
                + " then rings who else 1-rings who end;");
    }

    /** Something of everything has been told and done, and an image stands ahead of some of it. */
    static TollsForLate busy() {
        TollsForLate x = three();
        write(x, "takes walk-fast*5+weather;");
        write(x, "runs heard-1;takes 9+jam;day 2;");
        x.by(0);
        x.hears(1, 2, false);
        x.hears(5, 0, false);
        x.ring(5);
        x.day(3);
        x.heard(0, true);
        x.said(2, 30);
        x.image();
        x.due(1, 60);
        x.bed(2);
        x.day(2);
        x.heard(2, false);
        x.said(0, 7);
        write(x, "up 8;");
        load(x, "takes 1;takes 2;");
        return x;
    }

    /** As many of all as there can be: PERSONS, TEXTS, bytes, STEPS, pages, HEARD and SAID. */
    static TollsForLate full() {
        TollsForLate x = new TollsForLate();
        for (int i = 0; i < 8; i++) {
            x.person(i % 4, 20 + i, 10 + i, 15 + i);
        }
        for (int i = 0; i < 4; i++) {
            write(x, "takes " + i + "+walk;");
        }
        x.by(3);
        x.ring(1);
        x.day(31);
        for (int i = 0; i < 8; i++) {
            x.heard(i, true);
            x.said(i, i);
        }
        load(x, "up 0;".repeat(60));
        return x;
    }

    /** The last DAY that there is, on which none can pass. */
    static TollsForLate lastDay() {
        TollsForLate x = three();
        toDay(x, 9999);
        return x;
    }

    /** With few calls, for an object is used for 512 at most. */
    static void toDay(TollsForLate x, int day) {
        for (int now = x.is(0); now < day; now += 60) {
            x.day(Math.min(60, day - now));
        }
    }

    // ---- the end ----

    private static String plain(String text) {
        return text.replace("`", "").replaceAll("\\s+", " ").strip();
    }

    /** Each sentence has a test, and each test's words stand in the document. */
    private static void covered() throws IOException {
        String document = Files.readString(Path.of("../shared/DOC.md"), StandardCharsets.UTF_8);
        int terms = document.indexOf("## Terms");
        int first = document.indexOf("## Promise 1:");
        int last = document.indexOf("## Not promised");
        String parts = plain(document.substring(terms + 8, first).replaceAll("```(text)?", " ")
                .replaceAll("==== [IV]+\\.", " "));
        for (String fragment : fragments) {
            missing("the document has no words", fragment, parts.contains(fragment));
        }
        for (String sentence : split(parts)) {
            boolean has = false;
            for (String fragment : fragments) {
                has |= sentence.contains(fragment) || fragment.contains(sentence);
            }
            missing("no test of", sentence, has);
        }
        Set<String> told = new TreeSet<>();
        for (String promise : document.substring(first, last).split("## Promise ")) {
            if (!promise.isBlank()) {
                String number = promise.substring(0, promise.indexOf(':'));
                String body = promise.substring(promise.lastIndexOf("`: ") + 3);
                for (String sentence : split(plain(body))) {
                    told.add("promise " + number + ": " + sentence);
                }
            }
        }
        for (String sentence : told) {
            missing("no test of", sentence, sentences.contains(sentence));
        }
        for (String sentence : sentences) {
            missing("the document has no", sentence, told.contains(sentence));
        }
    }

    /** A sentence ends with a point behind a word or a bracket; the two of 0 .. 9 are none. */
    private static String[] split(String text) {
        return text.split("(?<=[^. ]\\.) +");
    }

    private static void missing(String what, String words, boolean has) {
        checks++;
        if (!has) {
            wrong++;
            System.out.println(what + " [" + words + "]");
        }
    }

    static void finish() throws IOException {
        covered();
        System.out.println(wrong == 0 ? checks + " answers are as due, of "
                + (fragments.size() + sentences.size()) + " places of the document"
                : wrong + " of " + checks + " answers are not as due");
        if (wrong != 0) {
            System.exit(1);
        }
    }
}
