/** The edges of ACTS, of what is UNDONE, of what is kept and brought back. */
public final class EdgesOfActsTest {
    private static final Edges E = new Edges();
    private static final String EMPTY = "race 2 compare;race 3 poll;";
    /** Done behind 9 draws; seed 7 draws 4 6 8 4 1 5 4 0 5 of 10. */
    private static final String EIGHT_TWO = "race 2 compare;ballots 8 0;ballots 2 1;limit 100;factor 120;seed 7;";
    /** No margin: never DONE. */
    private static final String EVEN = "race 2 compare;ballots 1 0;ballots 1 1;";

    public static void main(String[] args) {
        acts();
        draw();
        drawsNone();
        paper();
        way();
        rule();
        undo();
        image();
        back();
        E.end(21, 23, 24, 25, 26, 33, 34);
    }

    private static void acts() {
        E.edge(0, "draws of one call, a PAPER, a WAY, LIMIT, FACTOR, MOST changed", () -> {
            DrawnBallots x = Feeder.made(EIGHT_TWO);
            long[] acts = {x.draw(5), x.paper(0, 0, -1), x.way(0, 1), x.rule(0, 99), x.rule(1, 121), x.rule(2, 101)};
            E.due("one ACT each", () -> x.count(10), acts.length);
            Feeder.ask(x, "many 1=1");
            x.image();
            x.say();
            x.next(0, 0);
            x.tries(0, 1, 2, 0);
            x.quickest(1, 2);
            x.bestFactor(0, 1, 1);
            Feeder.election(x, "race");
            E.due("none of what asks", () -> x.count(10), acts.length);
        });
        E.edge(0, "the latest 12 can be UNDONE one by one, the latest first", () -> {
            for (int many = 11; many <= 14; many++) {
                DrawnBallots x = Feeder.made(EIGHT_TWO);
                for (int k = 1; k <= many; k++) {
                    x.rule(2, k);
                }
                int kept = Math.min(many, 12);
                E.due("kept of " + many, x.count(10), kept);
                for (int left = kept - 1; left >= 0; left--) {
                    E.due("left of " + many, x.undo(), left);
                    int most = many - kept + left;
                    E.due("MOST with " + left + " left of " + many, x.count(4), most == 0 ? 100 : most);
                }
                E.due("none is left of " + many, x.undo(), -1);
                E.due("MOST stays with none left of " + many, x.count(4), many == 13 ? 1 : many == 14 ? 2 : 100);
            }
        });
        E.edge(0, "ACTS: draws of one call, a PAPER", () -> {
            // Of more than twelve the first ones go, of whatever sort they and the others are.
            DrawnBallots x = Feeder.made("race 2 compare;race 2 poll;race 3 compare;ballots 8 0 0 0;ballots 2 1 1 2;limit 1;seed 7;");
            x.paper(1, 1, 1);
            x.rule(1, 250);
            x.draw(2);
            x.paper(2, 2, 1);
            x.way(2, 1);
            x.rule(2, 77);
            x.paper(3, 0, -2);
            x.draw(1);
            x.way(0, 1);
            x.way(1, 0);
            x.rule(0, 3);
            x.rule(1, 111);
            x.paper(9, 2, 0);
            x.draw(3);
            // Each pair: as it is, and as it is when that one is UNDONE.
            long[] due = {6, 3, 0, 2, 111, 250, 3, 1, 0, 1, 1, 0, 3, 2, -2, 0, 77, 100, 1, 0, 1, 0, 2, 0};
            Edges.Call[] seen = {() -> x.count(5), () -> x.ballot(9, 2, 1), () -> x.count(3), () -> x.count(2),
                () -> x.race(1, 1), () -> x.race(0, 1), () -> x.count(5), () -> x.ballot(3, 0, 1), () -> x.count(4),
                () -> x.race(2, 1), () -> x.ballot(2, 2, 1), () -> x.count(5)};
            for (int k = 0; k < 12; k++) {
                E.due("ahead of undo " + k, seen[k], due[2 * k]);
                E.due("undo " + k, x.undo(), 11 - k);
                E.due("behind undo " + k, seen[k], due[2 * k + 1]);
            }
            E.due("no more", x::undo, -1);
            E.due("the FACTOR of the second one stays", () -> x.count(3), 250);
            E.due("the PAPER of the first one, too", () -> x.ballot(1, 1, 1), 1);
        });
        E.edge(26, "(draws, too): how many still can be", () -> {
            DrawnBallots x = Feeder.made(EIGHT_TWO);
            for (int k = 1; k <= 8; k++) {
                x.draw(1);
            }
            x.paper(9, 0, 0);
            x.paper(9, 0, -1);
            x.paper(9, 0, 1);
            x.rule(0, 1);
            E.due("twelve", () -> x.count(10), 12);
            x.draw(300);
            E.due("still twelve", () -> x.count(10), 12);
            E.due("draws till 0.75 to the 25", () -> x.count(5), 25);
            E.due("undo draws", x::undo, 11);
            E.due("draws", () -> x.count(5), 8);
            for (int left = 10; left >= 7; left--) {
                E.due("undo others", x.undo(), left);
            }
            E.due("the PAPER", () -> x.ballot(9, 0, 1), 1);
            E.due("another PAPER", () -> x.ballot(0, 0, 1), 0);
            for (int left = 6; left >= 0; left--) {
                E.due("undo a draw", x.undo(), left);
                E.due("draws", x.count(5), left + 1);
            }
            E.due("the first draw can't be", x::undo, -1);
            E.due("it stays", () -> x.count(5), 1);
        });
    }

    private static void draw() {
        E.edge(21, "An ACT: so many draws (1 to 300), or till it is OVER or MOST are drawn: how many there were", () -> {
            DrawnBallots x = Feeder.made(EVEN + "most 300;");
            E.due("one", () -> x.draw(1), 1);
            E.due("298", () -> x.draw(298), 298);
            E.due("the last of MOST", () -> x.draw(300), 1);
            E.due("300 of them", () -> x.count(5), 300);
            DrawnBallots all = Feeder.made(EVEN + "most 300;");
            E.due("300 at once", () -> all.draw(300), 300);
            E.due("one ACT", () -> all.count(10), 1);
            DrawnBallots y = Feeder.made(EIGHT_TWO);
            E.due("till it is OVER", () -> y.draw(10), 9);
            y.undo();
            E.due("just till it is OVER", () -> y.draw(9), 9);
            y.undo();
            E.due("one less", () -> y.draw(8), 8);
            E.due("it isn't OVER", () -> y.count(8), 0);
            DrawnBallots least = Feeder.made(EVEN + "most 1;");
            E.due("MOST is 1", () -> least.draw(2), 1);
            DrawnBallots most = Feeder.made(EVEN + "most 5;");
            E.due("just MOST", () -> most.draw(5), 5);
            DrawnBallots more = Feeder.made(EVEN + "most 5;");
            E.due("more than MOST", () -> more.draw(6), 5);
        });
        E.edge(21, "IllegalArgumentException (ahead of that): n.", () -> {
            for (int n : new int[] {0, -1, 301, Integer.MIN_VALUE, Integer.MAX_VALUE}) {
                E.refusedIllegal("draw(" + n + ")", x -> x.draw(n));
                E.illegal("OVER, and " + n, () -> new DrawnBallots().draw(n));
                E.illegal("no BALLOTS, and " + n, () -> Feeder.made(EMPTY).draw(n));
                DrawnBallots hand = Feeder.made(EVEN + "most 1;");
                hand.draw(1);
                E.illegal("MOST are drawn, and " + n, () -> hand.draw(n));
                E.due("no ACT more", () -> hand.count(10), 1);
            }
        });
    }

    private static void drawsNone() {
        E.edge(21, "NONE (nothing changes): it is OVER, MOST are drawn, there are no BALLOTS", () -> {
            for (int n : new int[] {1, 300}) {
                E.due("without RACES it is OVER", () -> new DrawnBallots().draw(n), -1);
                DrawnBallots empty = Feeder.made(EMPTY);
                E.due("there are no BALLOTS", () -> empty.draw(n), -1);
                E.due("no ACT without BALLOTS", () -> empty.count(10), 0);
                E.due("no draw without BALLOTS", () -> empty.count(5), 0);
                for (int k = 0; k < 2; k++) {
                    boolean isOver = k == 0;
                    DrawnBallots x = full(isOver);
                    E.due("OVER: " + isOver, () -> x.draw(n), -1);
                    E.due("nothing changes, OVER: " + isOver, Scene.told(x), Scene.told(full(isOver)));
                }
            }
        });
    }

    /** A Scene that is OVER, or whose MOST are drawn. */
    private static DrawnBallots full(boolean isOver) {
        DrawnBallots x = Scene.made();
        x.rule(2, isOver ? 300 : 3);
        if (isOver) {
            x.paper(1, 0, 0);
            x.rule(0, 500);
            x.draw(300);
        }
        E.due("it is OVER", x.count(8), isOver ? 1 : 0);
        E.due("it is by hand", x.count(9), isOver ? 0 : 1);
        return x;
    }

    private static void paper() {
        E.edge(23, "what the PAPER of a BALLOT shows for a RACE becomes a CHOICE (-2 on): what it was", () -> {
            DrawnBallots x = Feeder.made("race 4 poll;race 2 compare;ballots 3 0 0;");
            int[] choices = {3, -2, -1, 0};
            int was = 0;
            for (int choice : choices) {
                int before = was;
                E.due("paper " + choice, () -> x.paper(2, 0, choice), before);
                E.due("it shows " + choice, () -> x.ballot(2, 0, 1), choice);
                E.due("what is RECORDED stays", () -> x.ballot(2, 0, 0), 0);
                E.due("the other RACE stays", () -> x.ballot(2, 1, 1), 0);
                E.due("another BALLOT stays", () -> x.ballot(1, 0, 1), 0);
                was = choice;
            }
            E.due("ACTS", () -> x.count(10), 4);
            DrawnBallots all = Feeder.made("race 2 poll;ballots 99 0;ballots 99 0;ballots 2 0;");
            E.due("the greatest BALLOT", () -> all.paper(199, 0, 1), 0);
            E.due("it shows it", () -> all.ballot(199, 0, 1), 1);
            E.none("the next above", () -> all.paper(200, 0, 1));
        });
        E.edge(23, "NoSuchElementException: no such BALLOT, RACE.", () -> {
            E.noRace("paper(0, .., 0)", (x, race) -> x.paper(0, race, 0));
            E.refusedBeside("paper(.., 0, 0)", 0, Scene.BALLOTS - 1, (x, ballot) -> x.paper(ballot, 0, 0));
            E.none("without BALLOTS", () -> Feeder.made(EMPTY).paper(0, 0, 0));
        });
        E.edge(23, "IllegalArgumentException (behind that): no such CHOICE.", () -> {
            E.refusedIllegalBeside("paper(0, 0, ..)", -2, Scene.CANDIDATES - 1, (x, choice) -> x.paper(0, 0, choice));
            E.refused("paper(0, 2, 3)", x -> x.paper(0, 2, 3));
            E.refused("paper(5, 0, -3)", x -> x.paper(5, 0, -3));
            DrawnBallots two = Feeder.made("race 4 poll;race 2 poll;ballots 1 0 0;");
            E.illegal("a 3rd of two", () -> two.paper(0, 1, 2));
            E.illegal("a 5th of four", () -> two.paper(0, 0, 4));
        });
    }

    private static void way() {
        E.edge(24, "the WAY of a RACE becomes COMPARE (0), POLL (1): what it was", () -> {
            DrawnBallots x = Feeder.made(EIGHT_TWO);
            x.draw(2);
            E.due("POLL", () -> x.way(0, 1), 0);
            E.due("it is so", () -> x.race(0, 1), 1);
            E.due("made anew, 5/8 twice", () -> x.risk(0), 390625000);
            E.due("POLL again", () -> x.way(0, 1), 1);
            E.due("COMPARE", () -> x.way(0, 0), 1);
            E.due("made anew, 3/4 twice", () -> x.risk(0), 562500000);
            E.due("ACTS", () -> x.count(10), 4);
        });
        E.edge(24, "NoSuchElementException: no such RACE. IllegalArgumentException (behind that): another one.", () -> {
            E.noRace("way(.., 0)", (x, race) -> x.way(race, 0));
            E.refusedIllegalBeside("way(0, ..)", 0, 1, (x, way) -> x.way(0, way));
            E.refused("way(2, 2)", x -> x.way(2, 2));
            E.refused("way(-1, -1)", x -> x.way(-1, -1));
        });
    }

    private static void rule() {
        E.edge(25, "LIMIT (what 0), FACTOR (1), MOST (2) becomes v: what it was", () -> {
            int[][] rows = {{0, 1, 500, 50}, {1, 101, 300, 110}, {2, 1, 300, 100}};
            for (int[] row : rows) {
                DrawnBallots x = new DrawnBallots();
                int what = row[0];
                E.due("the least of " + what, () -> x.rule(what, row[1]), row[3]);
                E.due("it is so", () -> x.count(2 + what), row[1]);
                E.due("the greatest of " + what, () -> x.rule(what, row[2]), row[1]);
                E.due("it is so", () -> x.count(2 + what), row[2]);
                for (int other = 0; other < 3; other++) {
                    E.due("of the others, " + other, x.count(2 + other), other == what ? row[2] : rows[other][3]);
                }
                E.due("ACTS", () -> x.count(10), 2);
            }
        });
        E.edge(25, "NoSuchElementException: another what. IllegalArgumentException (behind that): v.", () -> {
            E.refusedBeside("rule(.., 200)", 0, 2, (x, what) -> x.rule(what, 200));
            E.refusedIllegalBeside("rule(0, ..)", 1, 500, (x, v) -> x.rule(0, v));
            E.refusedIllegalBeside("rule(1, ..)", 101, 300, (x, v) -> x.rule(1, v));
            E.refusedIllegalBeside("rule(2, ..)", 1, 300, (x, v) -> x.rule(2, v));
            E.refused("rule(3, 0)", x -> x.rule(3, 0));
            E.refused("rule(-1, 501)", x -> x.rule(-1, 501));
        });
    }

    private static void undo() {
        E.edge(26, "NONE: none can", () -> {
            DrawnBallots x = new DrawnBallots();
            E.due("new", x::undo, -1);
            x.draw(1);
            E.due("draws of which there were none", x::undo, -1);
            x.rule(0, 7);
            E.due("the only one", x::undo, 0);
            E.due("LIMIT", () -> x.count(2), 50);
            E.due("none is left", x::undo, -1);
            Feeder.election(x, EIGHT_TWO);
            E.due("behind an election", x::undo, -1);
            E.none("a call that was refused", () -> x.way(1, 1));
            E.illegal("a call that was refused", () -> x.rule(0, 0));
            E.due("behind calls that were refused", x::undo, -1);
            x.image();
            x.draw(1);
            x.back();
            E.due("behind back", x::undo, -1);
            E.due("nothing drawn", () -> x.count(5), 0);
        });
        E.edge(26, "The latest ACT is UNDONE", () -> {
            DrawnBallots x = Feeder.made("race 2 compare;race 3 poll;ballots 8 0 0;ballots 2 1 1;limit 100;factor 120;seed 7;");
            x.draw(2);
            x.draw(3);
            x.paper(4, 0, 1);
            x.paper(9, 1, -2);
            x.way(1, 0);
            x.way(0, 1);
            x.rule(0, 70);
            x.rule(1, 150);
            x.rule(2, 5);
            E.due("MOST", () -> x.undo() * 1000 + x.count(4), 8100);
            E.due("FACTOR", () -> x.undo() * 1000 + x.count(3), 7120);
            E.due("LIMIT", () -> x.undo() * 1000 + x.count(2), 6100);
            E.due("WAY of the first RACE", () -> x.undo() * 1000 + x.race(0, 1), 5000);
            E.due("WAY", () -> x.undo() * 1000 + x.race(1, 1), 4001);
            E.due("the PAPER of the last one", () -> x.undo() * 1000 + x.ballot(9, 1, 1), 3001);
            E.due("the other PAPER is left", () -> x.ballot(4, 0, 1), 1);
            E.due("the other PAPER", () -> x.undo() * 1000 + x.ballot(4, 0, 1), 2000);
            E.due("RISK of 5 draws", () -> x.risk(0), 237304688);
            E.due("three draws", () -> x.undo() * 1000 + x.count(5), 1002);
            E.due("RISK of 2 draws", () -> x.risk(0), 562500000);
            E.due("two draws", () -> x.undo() * 1000 + x.count(5), 0);
            E.due("RISK of none", () -> x.risk(0), 1000000000);
            x.draw(1);
            E.due("drawn as before", () -> x.drawn(0), 4);
        });
    }

    private static void image() {
        E.edge(33, "All (but ACTS, the tape) is kept (instead of what was)", () -> {
            DrawnBallots x = new DrawnBallots();
            x.image();
            Feeder.election(x, EIGHT_TWO);
            E.due("a new object's image", () -> Edges.number(x.back()), 1);
            E.due("no RACES", () -> x.count(0), 0);
            E.due("no BALLOTS", () -> x.count(1), 0);
            E.due("LIMIT at first", () -> x.count(2), 50);
            Feeder.election(x, EIGHT_TWO);
            x.draw(2);
            x.image();
            E.due("ACTS stay behind image", () -> x.count(10), 1);
            x.draw(2);
            x.image();
            x.draw(2);
            x.back();
            E.due("the later image", () -> x.count(5), 4);
            E.due("it is no ACT", x::undo, -1);
            x.feed(1, 2, 3, 4, 5);
            x.image();
            x.ask(0);
            x.back();
            E.due("the tape isn't kept", () -> x.count(11), 0);
            x.feed(1, 2, 3, 4, 5);
            x.back();
            E.due("nor is it brought back", () -> x.count(11), 20);
            DrawnBallots y = Scene.made();
            y.image();
            E.due("image changes nothing", y.fault() * 100 + y.count(11) + y.said(0), 700 + 20 + 'c');
        });
    }

    private static void back() {
        E.edge(34, "All is as it was kept (no ACTS are kept then): true", () -> {
            DrawnBallots x = Scene.made();
            StringBuilder before = new StringBuilder();
            all(x, before);
            x.image();
            x.draw(1);
            x.paper(0, 0, 2);
            x.paper(4, 1, -1);
            x.way(1, 0);
            x.rule(0, 1);
            x.rule(1, 299);
            x.rule(2, 299);
            x.ask(0);
            String other = "race 4 poll;race 4 poll;race 4 poll;ballots 99 3 3 3;ballots 99 3 3 3;ballots 2 1 1 1;seed 5;";
            E.due("another election", Feeder.election(x, other), 200);
            x.draw(1);
            E.due("back", () -> Edges.number(x.back()), 1);
            E.due("no ACTS", () -> x.count(10), 0);
            E.due("none to be UNDONE", x::undo, -1);
            StringBuilder behind = new StringBuilder();
            all(x, behind);
            E.due("all", behind.toString(), before.toString());
            x.draw(1);
            E.due("SEED, too", () -> x.drawn(3), Draws.of(77, 5, 4)[3]);
            E.due("back again", () -> Edges.number(x.back()), 1);
            E.due("draws", () -> x.count(5), 3);
            E.due("RACES", () -> x.count(0), 2);
            E.none("none of number 2", () -> x.risk(2));
            DrawnBallots over = Feeder.made(EIGHT_TWO);
            over.draw(9);
            over.rule(0, 500);
            over.image();
            over.rule(0, 100);
            over.back();
            E.due("draws that count", () -> over.count(5), 3);
            over.rule(0, 100);
            E.due("draws that counted no more are kept, too", () -> over.count(5), 9);
        });
        E.edge(34, "false: nothing was kept", () -> {
            DrawnBallots x = Scene.made();
            E.due("a Scene's image", () -> Edges.number(x.back()), 1);
            DrawnBallots y = Feeder.made(EIGHT_TWO);
            y.draw(3);
            y.rule(0, 77);
            Feeder.ask(y, "many");
            y.say();
            y.feed(1, 2, 3, 4, 5);
            E.due("nothing was kept", () -> Edges.number(y.back()), 0);
            E.due("draws are left", () -> y.count(5), 3);
            E.due("ACTS are left", () -> y.count(10), 2);
            E.due("the tape is left", () -> y.count(11), 20);
            E.due("LIMIT is left", () -> y.count(2), 77);
            E.due("the FAULT is left", y::fault, 4);
            E.due("what was SAID is left", () -> y.said(1), 'a');
            E.due("undo", y::undo, 1);
            E.due("new", () -> Edges.number(new DrawnBallots().back()), 0);
        });
    }

    /** What image() keeps of a Scene. */
    private static void all(DrawnBallots x, StringBuilder told) {
        for (int what = 0; what < 10; what++) {
            told.append("count ").append(x.count(what)).append("; ");
        }
        for (int race = 0; race < Scene.RACES; race++) {
            for (int what = 0; what < 8; what++) {
                told.append("race ").append(x.race(race, what)).append("; ");
            }
            for (int k = 0; k <= Scene.DRAWS; k++) {
                told.append("riskAt ").append(x.riskAt(race, k)).append("; ");
            }
            for (int ballot = 0; ballot < Scene.BALLOTS; ballot++) {
                for (int what = 0; what < 3; what++) {
                    told.append("ballot ").append(x.ballot(ballot, race, what)).append("; ");
                }
            }
            for (int candidate = 0; candidate < Scene.CANDIDATES; candidate++) {
                told.append("riskOf ").append(x.riskOf(race, candidate)).append("; ");
                told.append("votes ").append(x.votes(race, candidate, false)).append("; ");
                told.append("hand ").append(x.votes(race, candidate, true)).append("; ");
            }
        }
        for (int k = 0; k < Scene.DRAWS; k++) {
            told.append("drawn ").append(x.drawn(k)).append("; ");
        }
        for (int ballot = 0; ballot < Scene.BALLOTS; ballot++) {
            told.append("times ").append(x.times(ballot)).append("; ");
        }
    }
}
