import java.util.Random;

/** Makes texts of elections and questions: most are as told, some have a fault. */
final class TextMaker {
    private static final String[] STRAY = {"race", "races", "poll", "compare", "ballots", "paper", "limit", "factor",
        "most", "seed", "blank", "off", ";", "{", "}", "<", "=", ">", "not", "and", "or", "many", "0", "1", "007", "200",
        "99999999999999999999", "A", "\t", "\r", "\u00e9", "-", "number", "times", "record", "mistake", "drawn", ""};
    private final Random random;

    TextMaker(Random random) {
        this.random = random;
    }

    private String stray() {
        return STRAY[random.nextInt(STRAY.length)];
    }

    private String gap() {
        int sort = random.nextInt(12);
        return sort == 0 ? "\n" : sort == 1 ? "  " : " ";
    }

    /** Joins the parts by blanks, now and then none, and now and then spoils one of them. */
    private String joined(String all, int spoiled) {
        String[] parts = all.trim().split(" +");
        StringBuilder text = new StringBuilder();
        for (int i = 0; i < parts.length; i++) {
            String part = parts[i];
            if (random.nextInt(spoiled) == 0) {
                int sort = random.nextInt(3);
                part = sort == 0 ? stray() : sort == 1 ? part + " " + stray() : "";
            }
            if (i == 0 || (!part.isEmpty() && ";<=>{}".contains(part)) || parts[i - 1].equals(";")) {
                text.append(random.nextInt(12) == 0 ? " " : "").append(part);
            } else {
                text.append(gap()).append(part);
            }
        }
        return text.toString();
    }

    private String choice(int candidates) {
        int sort = random.nextInt(10);
        return sort == 0 ? "blank" : sort == 1 ? "off" : Integer.toString(random.nextInt(candidates));
    }

    String election() {
        StringBuilder text = new StringBuilder();
        int races = 1 + random.nextInt(3);
        int[] candidates = new int[races];
        for (int r = 0; r < races; r++) {
            candidates[r] = 2 + random.nextInt(3);
            text.append("race " + candidates[r] + " " + (random.nextBoolean() ? "compare" : "poll") + " ; ");
        }
        int ballots = 0;
        boolean isGreat = random.nextInt(4) == 0;
        for (int k = random.nextInt(9); k > 0; k--) {
            int many = 1 + random.nextInt(isGreat ? 99 : 6);
            if (ballots + many > 200 && random.nextInt(4) != 0) {
                continue;
            }
            text.append("ballots " + many);
            for (int r = 0; r < races; r++) {
                // Most votes go to one candidate, or hardly an audit would ever be over.
                text.append(" " + (random.nextInt(3) != 0 ? Integer.toString(r % candidates[r]) : choice(candidates[r])));
            }
            text.append(" ; ");
            ballots += many;
            if (random.nextInt(4) == 0) {
                int race = random.nextInt(races);
                text.append("paper " + random.nextInt(ballots) + " " + race + " " + choice(candidates[race]) + " ; ");
            }
        }
        rules(text);
        String told = joined(text.toString(), random.nextInt(4) == 0 ? 25 : 1000000);
        return told.length() > 590 ? told.substring(0, 590) : told;
    }

    private void rules(StringBuilder text) {
        if (random.nextInt(2) == 0) {
            text.append("limit " + (1 + random.nextInt(random.nextBoolean() ? 500 : 20)) + " ; ");
        }
        if (random.nextInt(2) == 0) {
            text.append("factor " + (101 + random.nextInt(200)) + " ; ");
        }
        if (random.nextInt(2) == 0) {
            text.append("most " + (1 + random.nextInt(300)) + " ; ");
        }
        if (random.nextInt(2) == 0) {
            text.append("seed " + random.nextInt(1000000) + " ; ");
        }
    }

    String question(int races, int ballots) {
        String[] asked = {"many", "first", "drawn"};
        String text = asked[random.nextInt(3)] + " " + test(races, ballots, 0);
        return joined(text, random.nextInt(4) == 0 ? 15 : 1000000);
    }

    private String test(int races, int ballots, int open) {
        StringBuilder text = new StringBuilder(fact(races, ballots, open));
        for (int k = random.nextInt(3); k > 0; k--) {
            text.append(random.nextBoolean() ? " and " : " or ").append(fact(races, ballots, open));
        }
        return text.toString();
    }

    private String fact(int races, int ballots, int open) {
        int sort = random.nextInt(open > 7 ? 4 : 7);
        if (sort == 5) {
            return "not " + fact(races, ballots, open + 1);
        }
        if (sort == 6) {
            return "{ " + test(races, ballots, open + 2) + " }";
        }
        String[] signs = {" < ", " = ", " > "};
        return value(races, ballots) + signs[random.nextInt(3)] + value(races, ballots);
    }

    private String value(int races, int ballots) {
        int race = races == 0 ? 0 : random.nextInt(random.nextInt(20) == 0 ? races + 1 : races);
        switch (random.nextInt(9)) {
            case 0: return "blank";
            case 1: return "off";
            case 2: return "number";
            case 3: return "times";
            case 4: return "record " + race;
            case 5: return "paper " + race;
            case 6: return "mistake " + race;
            case 7: return Integer.toString(random.nextInt(4));
            default: return Integer.toString(random.nextInt(random.nextInt(20) == 0 ? 10010 : ballots + 2));
        }
    }
}
