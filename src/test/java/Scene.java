/**
 * An object with something of everything: RACES of both WAYS, PAPERS unlike what is RECORDED, draws,
 * ACTS, an image, a FAULT, something SAID, a question on the tape; and all that can be seen of one.
 */
final class Scene {
    static final int RACES = 2;
    static final int CANDIDATES = 3;
    static final int BALLOTS = 5;
    static final int DRAWS = 3;
    static final int FAULT_PLACE = 7;
    static final int TAPE = 20;
    /** What told() tells of a Scene with which nothing was done. */
    static final String TOLD = told(made());

    private Scene() {
    }

    static DrawnBallots made() {
        DrawnBallots x = withoutTape();
        Feeder.ask(x, "many 1=");
        Feeder.feed(x, "first number=2");
        return x;
    }

    /** As made(), but without the FAULT and the tape. */
    static DrawnBallots withoutTape() {
        DrawnBallots x = Feeder.made("race 3 compare;race 3 poll;ballots 3 0 1;ballots 1 1 0;ballots 1 off 1;"
            + "paper 1 0 2;limit 60;factor 130;most 9;seed 77;");
        x.draw(1);
        x.image();
        x.draw(2);
        x.paper(4, 1, 0);
        x.way(0, 0);
        x.rule(1, 140);
        x.rule(0, 61);
        x.rule(2, 8);
        x.say();
        return x;
    }

    /** All that can be seen of an object of at most this size, by its own ACTS undone and its image, too. */
    static String told(DrawnBallots x) {
        StringBuilder all = new StringBuilder();
        seen(x, all);
        for (int k = 0; k < 13; k++) {
            put(all, "undo", x::undo);
            put(all, "draws", () -> x.count(5));
            put(all, "most", () -> x.count(4));
            put(all, "risk", () -> x.risk(1));
        }
        shown(x, all);
        put(all, "back", () -> Edges.number(x.back()));
        shown(x, all);
        put(all, "drawn behind back", () -> x.draw(2));
        put(all, "risk behind these", () -> x.risk(0));
        put(all, "the tape's question", () -> x.ask(x.count(11)));
        put(all, "its fault", x::fault);
        return all.toString();
    }

    private static void put(StringBuilder all, String what, Edges.Call got) {
        all.append(what).append(' ').append(Edges.answer(got)).append("; ");
    }

    private static void seen(DrawnBallots x, StringBuilder all) {
        put(all, "fault", x::fault);
        for (int k = 0; k < 20; k++) {
            int i = k;
            put(all, "said " + k, () -> x.said(i));
        }
        shown(x, all);
        for (int race = 0; race < RACES; race++) {
            int r = race;
            for (int k = 0; k < 8; k++) {
                int i = k;
                put(all, "race " + r + " " + i, () -> x.race(r, i));
            }
            for (int k = 0; k <= DRAWS; k++) {
                int i = k;
                put(all, "riskAt " + r + " " + i, () -> x.riskAt(r, i));
                put(all, "riskOf " + r + " " + i, () -> x.riskOf(r, i));
            }
        }
        for (int k = 0; k < DRAWS; k++) {
            int i = k;
            put(all, "drawn " + k, () -> x.drawn(i));
        }
    }

    private static void shown(DrawnBallots x, StringBuilder all) {
        for (int k = 0; k < 12; k++) {
            int i = k;
            put(all, "count " + k, () -> x.count(i));
        }
        for (int ballot = 0; ballot < BALLOTS; ballot++) {
            int b = ballot;
            put(all, "times " + b, () -> x.times(b));
            for (int race = 0; race < RACES; race++) {
                int r = race;
                put(all, "recorded " + b + " " + r, () -> x.ballot(b, r, 0));
                put(all, "paper " + b + " " + r, () -> x.ballot(b, r, 1));
            }
        }
        for (int race = 0; race < RACES; race++) {
            int r = race;
            put(all, "way " + r, () -> x.race(r, 1));
            put(all, "risk " + r, () -> x.risk(r));
        }
    }
}
