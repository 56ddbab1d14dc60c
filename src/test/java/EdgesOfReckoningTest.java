/** The edges of what is reckoned ahead: CHANCE, flips, NEED, the best FACTOR, draws more, AUDITS from many SEEDS. */
public final class EdgesOfReckoningTest {
    private static final Edges E = new Edges();
    private static final long WHOLE = 1000000000L;
    private static final String EMPTY = "race 2 compare;race 3 poll;";
    private static final String EVEN = "race 2 compare;race 2 poll;ballots 3 0 0;ballots 3 1 1;";
    /** 3/4 each draw without a MISTAKE, so 9 draws. */
    private static final String EIGHT_TWO = "race 2 compare;ballots 8 0;ballots 2 1;limit 100;factor 120;seed 7;";
    /** By a PAPER of the WINNER 3/4 and 7/12, by one of another 3/2 and 7/2. */
    private static final String SIX_THREE_ONE = "race 3 poll;ballots 6 0;ballots 3 1;ballots 1 2;limit 200;";
    /** So little MARGIN, so low a LIMIT that NEED comes near to 5000. */
    private static final String NEAR = "race 2 compare;ballots 60 0;ballots 59 1;limit 1;factor 130;";

    /** EIGHT_TWO with a MISTAKE of 2 on 4 and of 1 on 7. */
    private static final String SOME_MISTAKES = EIGHT_TWO + "paper 4 0 1;paper 7 0 blank;";
    private static final int[] MISTAKES = {0, 0, 0, 0, 2, 0, 0, 1, 0, 0};

    public static void main(String[] args) {
        chance();
        enough();
        flips();
        needOfAll();
        needByPoll();
        need();
        bestFactor();
        more();
        tries();
        triesOfSeeds();
        quickest();
        E.end(10, 11, 12, 27, 28, 29, 30, 31);
    }

    private static void chance() {
        E.edge(10, "CHANCE (parts of 1000000000) that n draws (0 to 300) draw no BALLOT with a MISTAKE above 0", () -> {
            DrawnBallots x = Feeder.made("race 2 compare;ballots 99 0;ballots 99 0;ballots 2 0;paper 199 0 blank;");
            E.due("0 draws", () -> x.chance(0, 0), WHOLE);
            E.due("1 draw", () -> x.chance(0, 1), 995000000);
            E.due("300 draws", () -> x.chance(0, 300), 222292279);
            DrawnBallots below = Feeder.made("race 2 compare;ballots 3 0;ballots 1 1;ballots 1 blank;paper 3 0 0;paper 4 0 0;");
            E.due("-2 and -1 aren't above 0", () -> below.chance(0, 300), WHOLE);
            below.paper(0, 0, -1);
            E.due("1 is above 0", () -> below.chance(0, 1), 800000000);
            below.paper(1, 0, 1);
            E.due("2 is above 0", () -> below.chance(0, 1), 600000000);
        });
        E.edge(10, "with each draw times how many BALLOTS are without by BALLOTS, rounded up (without BALLOTS it stays)", () -> {
            DrawnBallots x = Feeder.made("race 2 compare;ballots 7 0;paper 3 0 blank;");
            E.due("6/7", () -> x.chance(0, 1), 857142858);
            E.due("36/49", () -> x.chance(0, 2), 734693879);
            DrawnBallots ten = Feeder.made("race 2 compare;ballots 9 0;ballots 1 0;paper 3 0 blank;");
            E.due("0.9 to the 9", () -> ten.chance(0, 9), 387420489);
            E.due("0.9 to the 10", () -> ten.chance(0, 10), 348678441);
            E.due("rounded up it stays 9", () -> ten.chance(0, 300), 9);
            DrawnBallots all = Feeder.made("race 2 compare;ballots 2 0;paper 0 0 1;paper 1 0 blank;");
            E.due("all have one: 0 draws", () -> all.chance(0, 0), WHOLE);
            E.due("all have one: 1 draw", () -> all.chance(0, 1), 0);
            E.due("all have one: 300 draws", () -> all.chance(0, 300), 0);
            E.due("none has one", () -> Feeder.made(EIGHT_TWO).chance(0, 300), WHOLE);
            E.due("without BALLOTS, by COMPARE", () -> Feeder.made(EMPTY).chance(0, 300), WHOLE);
            E.due("without BALLOTS, by POLL", () -> Feeder.made(EMPTY).chance(1, 1), WHOLE);
        });
        E.edge(10, "NoSuchElementException: no such RACE. IllegalArgumentException (behind that): n.", () -> {
            E.noRace("chance(.., 1)", (x, race) -> x.chance(race, 1));
            E.refusedIllegalBeside("chance(0, ..)", 0, 300, (x, n) -> x.chance(0, n));
            E.refused("chance(2, 301)", x -> x.chance(2, 301));
            E.refused("chance(-1, -1)", x -> x.chance(-1, -1));
            E.illegal("301 without BALLOTS", () -> Feeder.made(EMPTY).chance(0, 301));
        });
    }

    private static void enough() {
        E.edge(11, "With how many draws CHANCE is LIMIT times 1000000 or less", () -> {
            DrawnBallots half = Feeder.made("race 2 compare;ballots 2 0;limit 500;paper 1 0 1;");
            E.due("0.5 is 0.5", () -> half.enough(0), 1);
            half.rule(0, 499);
            E.due("0.5 isn't 0.499", () -> half.enough(0), 2);
            half.rule(0, 250);
            E.due("0.25 is 0.25", () -> half.enough(0), 2);
            half.rule(0, 249);
            E.due("0.25 isn't 0.249", () -> half.enough(0), 3);
            DrawnBallots all = Feeder.made("race 2 compare;ballots 2 0;limit 1;paper 0 0 1;paper 1 0 1;");
            E.due("all have one", () -> all.enough(0), 1);
        });
        E.edge(11, "(5000 at most); NONE: with none", () -> {
            // One of 200 is the slowest there is: far below 5000 even by the least LIMIT.
            DrawnBallots x = Feeder.made("race 2 compare;ballots 99 0;ballots 99 0;ballots 2 0;limit 1;paper 0 0 1;");
            E.due("the most there can be", () -> x.enough(0), 1379);
            x.rule(0, 500);
            E.due("by the greatest LIMIT", () -> x.enough(0), 139);
            x.paper(0, 0, 0);
            E.due("none has one", () -> x.enough(0), -1);
            DrawnBallots below = Feeder.made("race 2 compare;ballots 3 0;ballots 1 1;paper 3 0 0;");
            E.due("-2 isn't above 0", () -> below.enough(0), -1);
            E.due("without BALLOTS", () -> Feeder.made(EMPTY).enough(0), -1);
            E.noRace("enough", DrawnBallots::enough);
        });
    }

    private static void flipsAre(String papers, int fewest, int candidate) {
        DrawnBallots x = Feeder.made("race 4 poll;" + papers);
        E.due("fewest of " + papers, x.flips(0, 0), fewest);
        E.due("that CANDIDATE of " + papers, x.flips(0, 1), candidate);
    }

    private static void flips() {
        E.edge(12, "(more by HAND, or as many and a lesser number;", () -> {
            DrawnBallots x = Feeder.made("race 2 poll;ballots 20 blank;");
            // PAPERS of 0, of 1: the fewest.
            int[][] rows = {{5, 5, 1}, {6, 5, 1}, {7, 5, 2}, {8, 5, 2}, {9, 5, 3}, {5, 6, 1}, {5, 7, 1}, {5, 8, 2}, {5, 9, 2},
                {5, 10, 3}, {0, 1, 1}, {0, 2, 1}, {0, 3, 2}, {1, 0, 1}, {2, 0, 2}, {3, 0, 2}};
            for (int[] row : rows) {
                Feeder.election(x, "race 2 poll;ballots 20 blank;" + of(row[0], 0) + of(row[1], 1));
                E.due(row[0] + " to " + row[1], x.flips(0, 0), row[2]);
                E.due("that CANDIDATE", x.flips(0, 1), row[0] >= row[1] ? 1 : 0);
            }
        });
        E.edge(12, "reckoned as if there were as many such PAPERS as it takes, also where there are fewer, or none)", () -> {
            flipsAre("", 1, 1);
            flipsAre("ballots 9 blank;", 1, 1);
            flipsAre("ballots 9 0;paper 0 0 off;ballots 1 1;", 4, 1);
            flipsAre("ballots 1 3;", 1, 0);
        });
        E.edge(12, "the fewest (what 0), that CANDIDATE (1; of several the least)", () -> {
            flipsAre("ballots 6 0;ballots 2 1;ballots 2 2;ballots 1 3;", 3, 1);
            flipsAre("ballots 6 0;ballots 1 1;ballots 2 2;ballots 2 3;", 3, 1);
            flipsAre("ballots 7 0;ballots 1 1;ballots 3 2;ballots 3 3;", 3, 2);
            flipsAre("ballots 6 0;ballots 1 1;ballots 2 2;ballots 4 3;", 2, 3);
            // For the lesser 0 one flip less is enough than for 2 and 3.
            flipsAre("ballots 4 0;ballots 6 1;ballots 4 2;ballots 4 3;", 1, 0);
            flipsAre("ballots 3 0;ballots 6 1;ballots 4 2;ballots 4 3;", 2, 0);
            flipsAre("ballots 2 0;ballots 6 1;ballots 5 2;ballots 4 3;", 1, 2);
            DrawnBallots x = Feeder.made("race 2 poll;ballots 5 0;ballots 2 1;paper 0 0 1;paper 1 0 1;paper 2 0 1;");
            E.due("PAPERS count, not what is RECORDED", () -> x.flips(0, 0) * 10 + x.flips(0, 1), 20);
            x.paper(3, 0, 1);
            E.due("the RIGHT one, not the WINNER: 1 to 6", () -> x.flips(0, 0) * 10 + x.flips(0, 1), 30);
            x.paper(3, 0, -1);
            E.due("the RIGHT one, not the WINNER: 1 to 5", () -> x.flips(0, 0) * 10 + x.flips(0, 1), 20);
        });
        E.edge(12, "NoSuchElementException: no such RACE, another what.", () -> {
            E.noRace("flips(.., 0)", (x, race) -> x.flips(race, 0));
            E.refusedBeside("flips(0, ..)", 0, 1, (x, what) -> x.flips(0, what));
        });
    }

    private static String of(int many, int candidate) {
        return many == 0 ? "" : "ballots " + many + " " + candidate + ";";
    }

    private static void needOfAll() {
        E.edge(0, "how many draws make its RISK LIMIT times 1000000 or less", () -> {
            // 0.6, 0.36, 0.216.
            DrawnBallots x = Feeder.made("race 2 compare;ballots 5 0;factor 125;limit 360;");
            E.due("0.36 is 0.36", () -> x.need(0, 0, 0), 2);
            x.rule(0, 359);
            E.due("0.36 isn't 0.359", () -> x.need(0, 0, 0), 3);
            x.rule(0, 361);
            E.due("0.36 is less than 0.361", () -> x.need(0, 0, 0), 2);
            E.due("what is drawn has no part", () -> x.draw(1) + x.need(0, 0, 0), 3);
        });
        E.edge(0, "if first those with 2, then those with 1 are drawn, then BALLOTS without a MISTAKE: all MISTAKES", () -> {
            DrawnBallots x = Feeder.made(EIGHT_TWO);
            E.due("none", () -> x.need(0, 0, 0), 9);
            // 9/7, then 3/4: 1.2857 * 0.75^9 = 0.0965.
            E.due("a 1", () -> x.need(0, 1, 0), 10);
            // 4.5 * 0.75^13 = 0.1069, the next 0.0802.
            E.due("a 2", () -> x.need(0, 0, 1), 15);
            // 4.5 * 9/7 * 0.75^15 = 0.0773, the one before 0.1031.
            E.due("a 1 and a 2", () -> x.need(0, 1, 1), 17);
            // 10 to the 13 is the most: 0.75^41 of it is 75 million.
            E.due("99 of each", () -> x.need(0, 99, 99), 99 + 99 + 41);
            // With the greatest MARGIN those with 1 leave RISK as it is; they are drawn all the same.
            DrawnBallots all = Feeder.made("race 2 compare;ballots 5 0;factor 125;limit 360;");
            E.due("99 of 1", () -> all.need(0, 99, 0), 99 + 2);
        });
        E.edge(0, "and as many of the others as it takes (5000 draws at most together); none", () -> {
            DrawnBallots x = Feeder.made(NEAR);
            E.due("21 of 1", () -> x.need(0, 21, 0), 5000);
            E.due("22 of 1 would be 5001", () -> x.need(0, 22, 0), -1);
            E.due("19 of 1, 2 of 2", () -> x.need(0, 19, 2), 5000);
            E.due("20 of 1, 2 of 2 would be 5001", () -> x.need(0, 20, 2), -1);
            DrawnBallots clean = Feeder.made("race 2 compare;ballots 85 0;ballots 84 1;ballots 1 blank;limit 1;factor 213;");
            E.due("without any, 5000", () -> clean.need(0, 0, 0), 5000);
            DrawnBallots above = Feeder.made("race 2 compare;ballots 91 0;ballots 90 1;ballots 1 off;limit 1;factor 199;");
            E.due("without any, 5001 would be needed", () -> above.need(0, 0, 0), -1);
            above.rule(1, 198);
            E.due("by another FACTOR", () -> above.need(0, 0, 0), 4976);
            E.due("no MARGIN", () -> Feeder.made(EVEN).need(0, 0, 0), -1);
            E.due("without BALLOTS", () -> Feeder.made(EMPTY).need(0, 0, 0), -1);
        });
    }

    private static void needByPoll() {
        E.edge(0, "By POLL: if those with 2 are BALLOTS with another CANDIDATE on PAPER (that with most VOTES but the WINNER,", () -> {
            DrawnBallots x = Feeder.made(SIX_THREE_ONE);
            E.due("0.75^6 is 0.178", () -> x.need(0, 0, 0), 6);
            // 1.5 * 0.75^7 = 0.2002, the next 0.1502; were it the other one, 6 more would do.
            E.due("a 2", () -> x.need(0, 0, 1), 9);
            DrawnBallots last = Feeder.made("race 3 poll;ballots 6 0;ballots 1 1;ballots 3 2;limit 200;");
            E.due("a 2, if it's the last one", () -> last.need(0, 0, 1), 9);
            DrawnBallots wins = Feeder.made("race 3 poll;ballots 1 0;ballots 3 1;ballots 6 2;limit 200;");
            E.due("a 2, if the last one is the WINNER", () -> wins.need(0, 0, 1), 9);
            DrawnBallots third = Feeder.made("race 3 poll;ballots 6 0;ballots 3 1;limit 200;");
            E.due("a 2, not for one without VOTES", () -> third.need(0, 0, 1), 9);
            // Without VOTES it becomes 10 to the 13; 1/65536 of it is 0.1526.
            DrawnBallots none = Feeder.made("race 2 poll;ballots 5 0;limit 200;");
            E.due("a 2 for one without VOTES", () -> none.need(0, 0, 1), 1 + 16);
            E.due("99 for one without VOTES", () -> none.need(0, 0, 99), 99 + 16);
        });
        E.edge(0, "those with 1 blank ones, all others for the WINNER (of all CANDIDATES' risks the greatest)", () -> {
            DrawnBallots x = Feeder.made(SIX_THREE_ONE);
            E.due("one blank", () -> x.need(0, 1, 0), 7);
            E.due("99 blank", () -> x.need(0, 99, 0), 99 + 6);
            E.due("one of each", () -> x.need(0, 1, 1), 10);
            // 7/12 for the one, 3/4 for the other: the slower one counts, whichever it is.
            DrawnBallots y = Feeder.made("race 3 poll;ballots 1 0;ballots 6 1;ballots 3 2;limit 200;");
            E.due("the slower one behind the quicker", () -> y.need(0, 0, 0), 6);
            DrawnBallots z = Feeder.made("race 3 poll;ballots 3 0;ballots 6 1;ballots 1 2;limit 200;");
            E.due("the slower one is the first one", () -> z.need(0, 0, 0), 6);
            DrawnBallots four = Feeder.made("race 4 poll;ballots 1 0;ballots 1 1;ballots 6 2;ballots 3 3;limit 200;");
            E.due("the slower one is the last of four", () -> four.need(0, 0, 0), 6);
            DrawnBallots even = Feeder.made("race 3 poll;ballots 3 0;ballots 1 1;ballots 3 2;");
            E.due("one with as many VOTES", () -> even.need(0, 0, 0), -1);
            E.due("without VOTES", () -> Feeder.made("race 2 poll;ballots 9 blank;").need(0, 0, 0), -1);
            E.due("without BALLOTS", () -> Feeder.made(EMPTY).need(1, 0, 0), -1);
            // (100 + 99) / 200 each draw: 0.001 behind 1379.
            DrawnBallots slow = Feeder.made("race 2 poll;ballots 99 0;ballots 1 0;ballots 99 1;limit 1;");
            E.due("100 to 99", () -> slow.need(0, 0, 0), 1379);
        });
    }

    private static void need() {
        E.edge(27, "NEED of a RACE", () -> {
            for (String way : new String[] {"compare", "poll"}) {
                for (int winner = 0; winner < 4; winner++) {
                    String text = "race 4 " + way + ";ballots 8 " + winner + ";ballots 2 " + (winner == 0 ? 1 : 0) + ";limit 100;factor 120;";
                    // By POLL 5/8 of it each: 0.0954 behind 5.
                    E.due(text, Feeder.made(text).need(0, 0, 0), way.equals("poll") ? 5 : 9);
                    E.due("more of " + text, Feeder.made(text).more(0), way.equals("poll") ? 5 : 9);
                    // The least or the last one becomes the RIGHT one: by PAPERS, which have no part in it.
                    DrawnBallots x = Feeder.made(text);
                    int right = winner == 3 ? 0 : 3;
                    for (int ballot = 0; ballot < 7; ballot++) {
                        x.paper(ballot, 0, right);
                    }
                    E.due("the RIGHT one", x.race(0, 3), right);
                    E.due("by PAPERS, " + text, x.need(0, 0, 0), way.equals("poll") ? 5 : 9);
                    E.due("by PAPERS, a 2 more, " + text, x.need(0, 0, 1), way.equals("poll") ? 8 : 15);
                    E.due("by PAPERS, more of " + text, x.more(0), way.equals("poll") ? 5 : 9);
                }
            }
        });
        E.edge(27, "with so many MISTAKES of 1 and of 2 (0 to 99 each); NONE: none", () -> {
            DrawnBallots x = Feeder.made(EIGHT_TWO);
            E.due("none of either", () -> x.need(0, 0, 0), 9);
            E.due("99 of 1", () -> x.need(0, 99, 0) > 0 ? 1 : 0, 1);
            E.due("99 of 2", () -> x.need(0, 0, 99) > 0 ? 1 : 0, 1);
            DrawnBallots even = Feeder.made(EVEN);
            for (int race = 0; race < 2; race++) {
                E.due("no MARGIN", even.need(race, 0, 0), -1);
                E.due("no MARGIN, all MISTAKES", even.need(race, 99, 99), -1);
            }
        });
        E.edge(27, "NoSuchElementException: no such RACE. IllegalArgumentException (behind that): no such numbers.", () -> {
            E.noRace("need(.., 0, 0)", (x, race) -> x.need(race, 0, 0));
            E.refusedIllegalBeside("need(0, .., 0)", 0, 99, (x, ones) -> x.need(0, ones, 0));
            E.refusedIllegalBeside("need(1, 0, ..)", 0, 99, (x, twos) -> x.need(1, 0, twos));
            E.refused("need(2, 100, 0)", x -> x.need(2, 100, 0));
            E.refused("need(-1, 0, -1)", x -> x.need(-1, 0, -1));
        });
    }

    private static void best(String text, int ones, int twos, int factor) {
        DrawnBallots x = Feeder.made(text);
        int before = x.count(3);
        E.due(text + " with " + ones + " of 1, " + twos + " of 2", x.bestFactor(0, ones, twos), factor);
        E.due("FACTOR stays", x.count(3), before);
        E.due("no ACT", x.count(10), 0);
    }

    private static void bestFactor() {
        E.edge(28, "The FACTOR (101 to 300) by which NEED is least (of several the least)", () -> {
            // From 101 to 107 on it is 7 draws, by 100 it would be less.
            best(EIGHT_TWO, 0, 0, 101);
            best(EIGHT_TWO, 0, 1, 109);
            best(EIGHT_TWO, 0, 2, 129);
            best(EIGHT_TWO, 3, 1, 116);
            best(EIGHT_TWO, 99, 99, 101);
            best(EIGHT_TWO + "factor 300;", 0, 1, 109);
            // The greatest that could be found is 280; with more MISTAKES 10 to the 13 makes the least one best.
            best("race 2 compare;ballots 63 0;ballots 62 1;limit 500;", 1, 6, 277);
            best("race 2 compare;ballots 1 0;ballots 59 off;limit 500;", 1, 6, 278);
            best("race 2 poll;ballots 3 0;ballots 1 1;", 3, 3, 101);
        });
        E.edge(28, "NONE: none by any", () -> {
            DrawnBallots even = Feeder.made(EVEN);
            E.due("no MARGIN", () -> even.bestFactor(0, 0, 0), -1);
            E.due("no MARGIN by POLL", () -> even.bestFactor(1, 0, 0), -1);
            E.due("without BALLOTS", () -> Feeder.made(EMPTY).bestFactor(0, 0, 0), -1);
            E.due("without BALLOTS by POLL", () -> Feeder.made(EMPTY).bestFactor(1, 0, 0), -1);
            String slow = "race 2 compare;ballots 99 0;ballots 98 1;ballots 2 off;limit 1;factor 300;";
            best(slow, 0, 0, 101);
            best(slow, 0, 99, -1);
        });
        E.edge(28, "NoSuchElementException, IllegalArgumentException as need().", () -> {
            E.noRace("bestFactor(.., 0, 0)", (x, race) -> x.bestFactor(race, 0, 0));
            E.refusedIllegalBeside("bestFactor(0, .., 0)", 0, 99, (x, ones) -> x.bestFactor(0, ones, 0));
            E.refusedIllegalBeside("bestFactor(1, 0, ..)", 0, 99, (x, twos) -> x.bestFactor(1, 0, twos));
            E.refused("bestFactor(2, 100, 0)", x -> x.bestFactor(2, 100, 0));
            E.refused("bestFactor(-1, 0, -1)", x -> x.bestFactor(-1, 0, -1));
        });
    }

    private static void more() {
        E.edge(29, "make a RACE DONE (0: it is; 5000 at most); NONE: none", () -> {
            DrawnBallots x = Feeder.made(EIGHT_TWO);
            for (int k = 9; k > 0; k--) {
                E.due("more", x.more(0), k);
                x.draw(1);
            }
            E.due("it is DONE", () -> x.more(0), 0);
            DrawnBallots poll = Feeder.made(SIX_THREE_ONE);
            E.due("by POLL", () -> poll.more(0), 6);
            // 0 is drawn first, then 6, whose PAPER is of 1: 0.75 * 1.5 = 1.125, of which 0.75^7 is 0.1502.
            poll.draw(2);
            E.due("by POLL behind one for another", () -> poll.more(0), 7);
            poll.rule(2, 2);
            E.due("MOST has no part", () -> poll.more(0), 7);
            // 3/4 and 1/2 of themselves: behind 2 the latter is little enough, the other one isn't.
            DrawnBallots one = Feeder.made("race 3 poll;ballots 6 1;ballots 3 2;ballots 9 off;limit 500;");
            one.draw(2);
            one.paper(one.drawn(0), 0, 1);
            one.paper(one.drawn(1), 0, 1);
            E.due("little enough for one", () -> one.riskOf(0, 0), 250000000);
            E.due("not for the other", () -> one.riskOf(0, 2), 562500000);
            E.due("one more", () -> one.more(0), 1);
            DrawnBallots clean = Feeder.made("race 2 compare;ballots 85 0;ballots 84 1;ballots 1 blank;limit 1;factor 213;");
            E.due("5000", () -> clean.more(0), 5000);
            DrawnBallots above = Feeder.made("race 2 compare;ballots 91 0;ballots 90 1;ballots 1 off;limit 1;factor 199;");
            E.due("5001 would be needed", () -> above.more(0), -1);
            above.draw(1);
            E.due("5000 behind one draw", () -> above.more(0), 5000);
            DrawnBallots even = Feeder.made(EVEN);
            E.due("no MARGIN", () -> even.more(0), -1);
            E.due("no MARGIN by POLL", () -> even.more(1), -1);
            E.due("without BALLOTS", () -> Feeder.made(EMPTY).more(0), -1);
            E.due("without BALLOTS by POLL", () -> Feeder.made(EMPTY).more(1), -1);
        });
        E.edge(29, "NONE: none. NoSuchElementException: no such RACE.", () -> E.noRace("more", DrawnBallots::more));
    }

    /** How many draws an AUDIT of SOME_MISTAKES makes of a SEED, at most so many; below 0, if it isn't OVER. */
    private static int audit(int seed, int most) {
        int[] draws = Draws.of(seed, 10, most);
        long risk = WHOLE;
        for (int k = 0; k < most; k++) {
            long by = 10L * (120 - 50 * MISTAKES[draws[k]]);
            risk = Math.min(10000000000000L, (risk * 900 + by - 1) / by);
            if (risk <= 100000000) {
                return k + 1;
            }
        }
        return -most;
    }

    private static void tries() {
        E.edge(30, "(1 to 30; anew, all else as it is) by MOST", () -> {
            DrawnBallots x = Feeder.made(SOME_MISTAKES);
            E.due("one", () -> x.tries(0, 5, 1, 1), Math.abs(audit(5, 100)));
            E.due("thirty", () -> x.tries(0, 5, 30, 1), drawsOf(5, 30, 100));
            x.draw(4);
            E.due("anew", () -> x.tries(0, 5, 30, 1), drawsOf(5, 30, 100));
            E.due("draws stay", () -> x.count(5), 4);
            E.due("no ACT more", () -> x.count(10), 1);
            for (int most : new int[] {1, 8, 9, 10, 15, 300}) {
                x.rule(2, most);
                E.due("draws by " + most, x.tries(0, 5, 30, 1), drawsOf(5, 30, most));
                E.due("DONE by " + most, x.tries(0, 5, 30, 0), doneOf(5, 30, most));
            }
            DrawnBallots both = Feeder.made("race 2 compare;race 2 compare;ballots 9 0 0;ballots 1 0 1;limit 300;most 2;");
            E.due("one RACE is DONE behind 2", () -> both.tries(0, 3, 30, 0), 30);
            E.due("the other isn't", () -> both.tries(1, 3, 30, 0), 0);
            E.due("draws of both are the same", () -> both.tries(0, 3, 30, 1), 60);
            both.rule(2, 3);
            E.due("the other is behind 3", () -> both.tries(1, 3, 30, 0), 30);
            E.due("3 draws each", () -> both.tries(0, 3, 30, 1), 90);
            DrawnBallots empty = Feeder.made(EMPTY);
            E.due("without BALLOTS none is DONE", () -> empty.tries(0, 3, 30, 0), 0);
            E.due("without BALLOTS no draws", () -> empty.tries(1, 3, 30, 1), 0);
            E.due("without BALLOTS none is wrong", () -> empty.tries(1, 3, 30, 2), 0);
        });
        E.edge(30, "in how many it is DONE though the WINNER isn't the RIGHT one (2)", () -> {
            String wrong = EIGHT_TWO + "limit 500;paper 0 0 1;paper 1 0 1;paper 2 0 1;";
            DrawnBallots x = Feeder.made(wrong);
            int done = x.tries(0, 1, 30, 0);
            E.due("some are DONE", done > 0 && done < 30 ? 1 : 0, 1);
            E.due("5 to 5 by HAND: the WINNER is the RIGHT one", () -> x.tries(0, 1, 30, 2), 0);
            x.paper(3, 0, 1);
            int fewer = x.tries(0, 1, 30, 0);
            E.due("some are DONE", fewer > 0 && fewer < 30 ? 1 : 0, 1);
            E.due("4 to 6 by HAND: it isn't", () -> x.tries(0, 1, 30, 2), fewer);
        });
        E.edge(30, "NoSuchElementException: no such RACE, another what. IllegalArgumentException (behind that): n.", () -> {
            E.noRace("tries(.., 1, 1, 0)", (x, race) -> x.tries(race, 1, 1, 0));
            E.refusedBeside("tries(0, 1, 1, ..)", 0, 2, (x, what) -> x.tries(0, 1, 1, what));
            E.refusedIllegalBeside("tries(0, 1, .., 0)", 1, 30, (x, n) -> x.tries(0, 1, n, 0));
            E.refused("tries(2, 1, 0, 0)", x -> x.tries(2, 1, 0, 0));
            E.refused("tries(0, 1, 31, 3)", x -> x.tries(0, 1, 31, 3));
        });
    }

    private static int drawsOf(int seed, int n, int most) {
        int sum = 0;
        for (int k = 0; k < n; k++) {
            sum += Math.abs(audit(seed + k, most));
        }
        return sum;
    }

    private static int doneOf(int seed, int n, int most) {
        int sum = 0;
        for (int k = 0; k < n; k++) {
            sum += audit(seed + k, most) > 0 ? 1 : 0;
        }
        return sum;
    }

    private static void triesOfSeeds() {
        E.edge(30, "Of n AUDITS from SEEDS seed, seed and 1, ..", () -> {
            DrawnBallots x = Feeder.made(SOME_MISTAKES);
            int[] seeds = {0, -1, -15, -30, 7, 1000000, Integer.MAX_VALUE, Integer.MAX_VALUE - 15, Integer.MAX_VALUE - 29,
                Integer.MIN_VALUE};
            for (int seed : seeds) {
                for (int n : new int[] {1, 2, 30}) {
                    E.due("draws of " + n + " from " + seed, x.tries(0, seed, n, 1), drawsOf(seed, n, 100));
                    E.due("DONE of " + n + " from " + seed, x.tries(0, seed, n, 0), doneOf(seed, n, 100));
                }
            }
        });
    }

    /** The first of n SEEDS with the fewest draws till it is OVER. */
    private static int first(int seed, int n, int most) {
        int found = -1;
        for (int k = 0; k < n; k++) {
            int draws = audit(seed + k, most);
            if (draws > 0 && (found < 0 || draws < audit(seed + found, most))) {
                found = k;
            }
        }
        return found;
    }

    private static void quickest() {
        E.edge(31, "The first of n SEEDS from seed on (as tries()) by which an AUDIT is OVER with the fewest draws", () -> {
            DrawnBallots x = Feeder.made(SOME_MISTAKES);
            int[] seeds = {0, 5, -3, -30, 999999, Integer.MAX_VALUE, Integer.MAX_VALUE - 15, Integer.MIN_VALUE};
            for (int seed : seeds) {
                for (int n : new int[] {1, 2, 30}) {
                    E.due("of " + n + " from " + seed, x.quickest(seed, n), first(seed, n, 100));
                }
            }
            int late = 0;
            while (first(late, 30, 100) != 29 && late < 100000) {
                late++;
            }
            int from = late;
            E.due("the last of 30", () -> x.quickest(from, 30), 29);
            E.due("not of 29", () -> x.quickest(from, 29), first(from, 29, 100));
            E.due("all alike, the first", () -> Feeder.made(EIGHT_TWO).quickest(3, 30), 0);
        });
        E.edge(31, "how many after seed it is; NONE: by none it is OVER", () -> {
            DrawnBallots x = Feeder.made(SOME_MISTAKES + "most 8;");
            E.due("MOST is one too few", () -> x.quickest(0, 30), -1);
            x.rule(2, 9);
            E.due("MOST is just enough", () -> x.quickest(0, 30), first(0, 30, 9));
            E.due("that is one of them", first(0, 30, 9) >= 0 ? 1 : 0, 1);
            E.due("without RACES it is OVER at once", () -> new DrawnBallots().quickest(9, 30), 0);
            E.due("without BALLOTS by none", () -> Feeder.made(EMPTY).quickest(9, 30), -1);
            E.due("one of two RACES isn't DONE", () -> Feeder.made(EVEN).quickest(9, 30), -1);
        });
        E.edge(31, "IllegalArgumentException: n.", () -> {
            E.refusedIllegalBeside("quickest(1, ..)", 1, 30, (x, n) -> x.quickest(1, n));
            E.illegal("0 without RACES", () -> new DrawnBallots().quickest(1, 0));
            E.illegal("31 without RACES", () -> new DrawnBallots().quickest(1, 31));
        });
    }
}
