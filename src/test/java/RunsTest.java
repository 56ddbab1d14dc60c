import java.util.ArrayList;
import java.util.List;
import java.util.NoSuchElementException;
import java.util.Random;

/** Long runs of calls, drawn from given seeds, whose every answer is compared with that of Model. */
public final class RunsTest {
    private static final Check CHECK = new Check();
    private static final int RUNS = 3000;
    /** Behind its 512th call an object may answer what it likes; one turn makes fewer than 90. */
    private static final int CALLS = 512 - 90;

    private interface Call {
        long of();
    }

    private final Random random;
    private final String name;
    private final DrawnBallots x = new DrawnBallots();
    private final Model model = new Model();
    private final List<String> calls = new ArrayList<>();
    private final TextMaker texts;
    private int races = 0;
    private int ballots = 0;

    private RunsTest(int seed) {
        random = new Random(seed);
        name = "run " + seed;
        texts = new TextMaker(random);
    }

    public static void main(String[] args) {
        for (int seed = 1; seed <= RUNS && CHECK.isClean(); seed++) {
            new RunsTest(seed).go();
        }
        CHECK.end();
    }

    private void go() {
        while (calls.size() < CALLS && CHECK.isClean()) {
            call();
            if (random.nextInt(8) == 0) {
                look();
            }
        }
    }

    private static String answer(Call call) {
        try {
            return Long.toString(call.of());
        } catch (NoSuchElementException | IllegalArgumentException e) {
            return "throws " + e.getClass().getSimpleName();
        }
    }

    private void same(String told, Call got, Call want) {
        calls.add(told);
        CHECK.due(name + ", call " + calls.size() + ": " + told, answer(got), answer(want));
        if (!CHECK.isClean()) {
            System.out.println(String.join("; ", calls));
        }
    }

    /** A number of 0 to below many, now and then one beside these, seldom one far off. */
    private int about(int many) {
        int sort = random.nextInt(40);
        if (sort == 0) {
            return -1;
        }
        if (sort == 1) {
            return many;
        }
        if (sort == 2) {
            int[] far = {Integer.MIN_VALUE, Integer.MAX_VALUE, -2, many + 1, 1 << 16, random.nextInt()};
            return far[random.nextInt(far.length)];
        }
        return many <= 0 ? 0 : random.nextInt(many);
    }

    private void feed(String text) {
        for (int from = 0; from < text.length(); from += 20) {
            int[] n = Feeder.numbers(text, from);
            same("feed '" + text.substring(from, Math.min(text.length(), from + 20)) + "'",
                () -> x.feed(n[0], n[1], n[2], n[3], n[4]), () -> model.feed(n));
        }
    }

    private void election() {
        String text = texts.election();
        feed(text);
        int n = random.nextInt(30) == 0 ? about(text.length()) : text.length();
        same("election(" + n + ")", () -> x.election(n), () -> model.election(n));
        races = model.count(0);
        ballots = model.count(1);
    }

    private void ask() {
        String text = texts.question(races, ballots);
        feed(text);
        int n = random.nextInt(30) == 0 ? about(text.length()) : text.length();
        same("ask(" + n + ") '" + text + "'", () -> x.ask(n), () -> model.ask(n));
    }

    private void call() {
        int sort = random.nextInt(100);
        if (calls.isEmpty() && random.nextInt(20) != 0 || sort < 2) {
            election();
        } else if (sort < 12) {
            ask();
        } else if (sort < 50) {
            act(random.nextInt(9));
        } else {
            question(random.nextInt(20));
        }
    }

    private void act(int sort) {
        int race = about(races);
        int ballot = about(ballots);
        switch (sort) {
            case 0:
            case 1:
            case 2: {
                int n = random.nextInt(3) == 0 ? about(301) : 1 + random.nextInt(12);
                same("draw(" + n + ")", () -> x.draw(n), () -> model.draw(n));
                break;
            }
            case 3:
            case 4: {
                int choice = random.nextInt(6) - 2;
                same("paper(" + ballot + ", " + race + ", " + choice + ")", () -> x.paper(ballot, race, choice),
                    () -> model.paper(ballot, race, choice));
                break;
            }
            case 5: {
                int way = about(2);
                same("way(" + race + ", " + way + ")", () -> x.way(race, way), () -> model.way(race, way));
                break;
            }
            case 6: {
                int what = about(3);
                int v = about(what == 0 ? 501 : what == 1 ? 301 : random.nextInt(2) == 0 ? 301 : 20);
                int factor = what == 1 && v >= 0 && v < 300 ? Math.max(100, v) : v;
                same("rule(" + what + ", " + factor + ")", () -> x.rule(what, factor), () -> model.rule(what, factor));
                break;
            }
            case 7:
                for (int k = random.nextInt(random.nextInt(8) == 0 ? 15 : 3); k >= 0; k--) {
                    same("undo()", x::undo, model::undo);
                }
                break;
            default:
                imageOrBack();
                break;
        }
    }

    private void imageOrBack() {
        int sort = random.nextInt(6);
        if (sort == 0) {
            same("image()", () -> { x.image(); return 0; }, () -> { model.image(); return 0; });
        } else if (sort == 1) {
            same("back()", () -> x.back() ? 1 : 0, () -> model.back() ? 1 : 0);
            races = model.count(0);
            ballots = model.count(1);
        }
    }

    private void question(int sort) {
        int race = about(races);
        int ballot = about(ballots);
        int what = about(8);
        int some = about(random.nextInt(4) == 0 ? 100 : 6);
        int others = about(random.nextInt(4) == 0 ? 100 : 4);
        int seed = random.nextInt();
        int tries = about(random.nextInt(3) == 0 ? 31 : 5);
        String two = "(" + race + ", " + some + ", " + others + ")";
        switch (sort) {
            case 0: same("count(" + what + ")", () -> x.count(what), () -> model.count(what)); break;
            case 1: same("race(" + race + ", " + what + ")", () -> x.race(race, what), () -> model.race(race, what)); break;
            case 2: same("risk(" + race + ")", () -> x.risk(race), () -> model.risk(race)); break;
            case 3: same("riskOf(" + race + ", " + some + ")", () -> x.riskOf(race, some), () -> model.riskOf(race, some)); break;
            case 4: same("worst(" + race + ")", () -> x.worst(race), () -> model.worst(race)); break;
            case 5: {
                int n = about(301);
                same("chance(" + race + ", " + n + ")", () -> x.chance(race, n), () -> model.chance(race, n));
                break;
            }
            case 6: same("enough(" + race + ")", () -> x.enough(race), () -> model.enough(race)); break;
            case 7: {
                int of = about(2);
                same("flips(" + race + ", " + of + ")", () -> x.flips(race, of), () -> model.flips(race, of));
                break;
            }
            case 8: say(); break;
            case 9: same("votes" + two, () -> x.votes(race, some, seed < 0), () -> model.votes(race, some, seed < 0)); break;
            case 10: {
                int of = about(3);
                same("ballot(" + ballot + ", " + race + ", " + of + ")", () -> x.ballot(ballot, race, of),
                    () -> model.ballot(ballot, race, of));
                break;
            }
            case 11: same("next(" + race + ", " + ballot + ")", () -> x.next(race, ballot), () -> model.next(race, ballot)); break;
            case 12: same("need" + two, () -> x.need(race, some, others), () -> model.need(race, some, others)); break;
            case 13:
                if (random.nextInt(8) == 0) {
                    same("bestFactor" + two, () -> x.bestFactor(race, some, others),
                        () -> model.bestFactor(race, some, others));
                }
                break;
            case 14: same("more(" + race + ")", () -> x.more(race), () -> model.more(race)); break;
            case 15: {
                int of = about(3);
                same("tries(" + race + ", " + seed + ", " + tries + ", " + of + ")", () -> x.tries(race, seed, tries, of),
                    () -> model.tries(race, seed, tries, of));
                break;
            }
            case 16: same("quickest(" + seed + ", " + tries + ")", () -> x.quickest(seed, tries),
                () -> model.quickest(seed, tries)); break;
            case 17: {
                int k = about(model.count(5) + 1);
                same("riskAt(" + race + ", " + k + ")", () -> x.riskAt(race, k), () -> model.riskAt(race, k));
                same("drawn(" + k + ")", () -> x.drawn(k), () -> model.drawn(k));
                break;
            }
            case 18: {
                int mistake = random.nextInt(7) - 3;
                same("mistakes(" + race + ", " + mistake + ")", () -> x.mistakes(race, mistake),
                    () -> model.mistakes(race, mistake));
                same("times(" + ballot + ")", () -> x.times(ballot), () -> model.times(ballot));
                break;
            }
            default: same("fault()", x::fault, model::fault); break;
        }
    }

    private void say() {
        if (random.nextInt(3) != 0) {
            same("say()", x::say, model::say);
        }
        for (int k = -1; k <= 40; k++) {
            int i = k;
            same("said(" + i + ")", () -> x.said(i), () -> model.said(i));
        }
    }

    /** Compares what can be looked at without a change. */
    private void look() {
        for (int k = 0; k < 12; k++) {
            int what = k;
            same("count(" + what + ")", () -> x.count(what), () -> model.count(what));
        }
        for (int k = 0; k < races; k++) {
            int race = k;
            for (int j = 0; j < 8; j++) {
                int what = j;
                same("race(" + race + ", " + what + ")", () -> x.race(race, what), () -> model.race(race, what));
            }
            same("risk(" + race + ")", () -> x.risk(race), () -> model.risk(race));
        }
    }
}
