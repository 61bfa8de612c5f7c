/** Writes TEXTS by draws, right ones and spoilt ones. */
final class Writing {
    private static final String[] BOTH = {"day", "weather", "who", "road", "walk", "run", "due"};
    private static final String[] SIGNS = {"<", "<=", ">", ">=", "=", "#"};
    private static final String[] SPOILERS = {"(", ")", ";", "not ", " rings ", " if ", "-", "then ",
        "else ", " end ", " or ", " and ", " xor ", "heard", "fast", "jam", " runs ", " takes ", "x",
        "10000", "99", "0", "$", "\t", "\n", " ", "<", "=", "Day", " of ", "up 0;", "é", "\0"};

    private final Draws draws;
    private String law;

    Writing(Draws draws) {
        this.draws = draws;
    }

    /** Of at most 300 bytes. */
    String text() {
        for (int i = 0; i < 1000; i++) {
            String text = one();
            if (text.length() <= 300) {
                return text;
            }
        }
        return "";
    }

    private String one() {
        StringBuilder out = new StringBuilder();
        boolean runsFirst = draws.oneIn(2);
        String laws = (draws.oneIn(4) ? "" : law(runsFirst ? "runs" : "takes"))
                + (draws.oneIn(4) ? "" : law(runsFirst ? "takes" : "runs"));
        int clauses = draws.oneIn(12) ? draws.from(20, 26) : draws.below(7);
        int lawsAt = draws.below(clauses + 1);
        for (int i = 0; i <= clauses; i++) {
            if (i == lawsAt) {
                out.append(laws);
            }
            if (i < clauses) {
                out.append(clauses > 12 ? "up " + draws.below(8) + ";" : clause());
            }
        }
        return draws.oneIn(3) ? spoilt(out.toString()) : out.toString();
    }

    private String spoilt(String text) {
        int at = draws.below(text.length() + 1);
        int to = Math.min(text.length(), at + draws.below(4));
        return text.substring(0, at) + (draws.oneIn(3) ? "" : draws.pick(SPOILERS))
                + text.substring(to);
    }

    private String law(String name) {
        law = name;
        return name + " " + (draws.oneIn(10) ? deep(draws.from(6, 10)) : sum(draws.from(0, 3))) + ";";
    }

    private String deep(int levels) {
        if (levels == 0) {
            return one(0);
        }
        switch (draws.below(5)) {
            case 0:
                return "(" + deep(levels - 1) + ")";
            case 1:
                return "-" + deep(levels - 1);
            case 2:
                return "rings " + deep(levels - 1);
            case 3:
                return "if " + (draws.oneIn(2) ? "not " : "") + deep(levels - 1) + draws.pick(SIGNS)
                        + "1 then 2 else who end";
            default:
                return "if 1=1 then 2 else " + deep(levels - 1) + " end";
        }
    }

    String clause() {
        switch (draws.below(6)) {
            case 0:
                return "person " + draws.from(0, draws.oneIn(20) ? 4 : 3) + " walk "
                        + draws.from(1, 40) + " run " + draws.from(1, 25) + " due "
                        + draws.from(0, 40) + ";";
            case 1:
                return "ring " + draws.below(draws.oneIn(3) ? 257 : 8) + ";";
            case 2:
                return "due " + draws.below(60) + " of " + draws.below(draws.oneIn(4) ? 9 : 3) + ";";
            case 3:
                return "bed " + draws.below(draws.oneIn(4) ? 9 : 3) + ";";
            case 4:
                return "up " + draws.below(draws.oneIn(4) ? 9 : 3) + " ;";
            default:
                return "day " + (draws.oneIn(5) ? draws.from(0, 61) : draws.from(1, 3)) + ";";
        }
    }

    private String sum(int depth) {
        String out = product(depth);
        while (draws.oneIn(3)) {
            out += (draws.oneIn(2) ? "+" : " - ") + product(depth);
        }
        return out;
    }

    private String product(int depth) {
        String out = one(depth);
        while (draws.oneIn(4)) {
            out += (draws.oneIn(2) ? "*" : "/ ") + one(depth);
        }
        return out;
    }

    private String one(int depth) {
        int what = draws.below(depth > 0 ? 12 : 6);
        switch (what) {
            case 0:
                return "" + draws.below(draws.oneIn(4) ? 10000 : 12);
            case 1:
            case 2:
                return draws.pick(BOTH);
            case 3:
            case 4:
                return law.equals("runs") ? "heard" : draws.oneIn(2) ? "fast" : "jam";
            case 5:
                return "rings " + (draws.oneIn(2) ? "who" : "" + draws.below(9));
            case 6:
                return "(" + sum(depth - 1) + ")";
            case 7:
                return "-" + one(depth - 1);
            case 8:
                return "rings " + one(depth - 1);
            default:
                return "if " + either(depth - 1) + " then " + sum(depth - 1) + " else "
                        + sum(depth - 1) + " end";
        }
    }

    private String either(int depth) {
        String out = both(depth);
        while (draws.oneIn(4)) {
            out += (draws.oneIn(2) ? " or " : " xor ") + both(depth);
        }
        return out;
    }

    private String both(int depth) {
        String out = ask(depth);
        while (draws.oneIn(4)) {
            out += " and " + ask(depth);
        }
        return out;
    }

    private String ask(int depth) {
        return (draws.oneIn(4) ? "not " : "") + sum(depth) + draws.pick(SIGNS) + sum(depth);
    }
}
