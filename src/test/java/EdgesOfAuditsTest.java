/** The edges of votes, mistakes, draws, risks, THE AUDIT, and of what is asked of these. */
public final class EdgesOfAuditsTest {
    private static final Edges E = new Edges();
    private static final long WHOLE = 1000000000L;
    private static final long TOP = 10000000000000L;
    private static final String EMPTY = "race 2 compare;race 3 poll;";

    /** 10 ballots, 8 to 2: a draw without a mistake makes the risk (120 * 10 - 50 * 6) / (10 * 120) = 3/4 of itself. */
    private static final String EIGHT_TWO = "race 2 compare;ballots 8 0;ballots 2 1;limit 100;factor 120;seed 7;";
    /** The BALLOTS that seed 7 draws of 10. */
    private static final int[] SEVEN = {4, 6, 8, 4, 1, 5, 4, 0, 5};
    /** The risks of EIGHT_TWO: 3/4 of the one before, rounded up; 100000000 or less behind 9 draws. */
    private static final long[] QUARTERS = {1000000000, 750000000, 562500000, 421875000, 316406250, 237304688,
        177978516, 133483887, 100112916, 75084687};
    /** Two races for one draw: 6/11 and 7/11 of themselves, so 0.2975 behind 2 and 0.2577 behind 3. */
    private static final String TWO_RACES = "race 2 compare;race 2 compare;ballots 9 0 0;ballots 1 0 1;limit 300;";

    public static void main(String[] args) {
        newObject();
        votes();
        mistakes();
        draws();
        risks();
        risksOfNone();
        done();
        over();
        drawsThatCount();
        count();
        race();
        riskAndRiskOf();
        worst();
        say();
        said();
        votesAndBallot();
        drawnTimesMistakes();
        riskAt();
        next();
        E.end(1, 5, 6, 7, 8, 9, 13, 14, 15, 16, 17, 18, 19, 20, 22);
    }

    private static void counts(DrawnBallots x, long... counts) {
        for (int what = 0; what < counts.length; what++) {
            E.due("count(" + what + ")", x.count(what), counts[what]);
        }
    }

    private static void newObject() {
        E.edge(1, "An ELECTION without RACES and BALLOTS", () -> {
            DrawnBallots x = new DrawnBallots();
            counts(x, 0, 0, 50, 110, 100, 0, 0, 0, 1, 0, 0, 0);
            E.due("fault", x::fault, -1);
            E.due("said", () -> x.said(0), -1);
            E.due("say", x::say, 0);
            E.due("undo", x::undo, -1);
            E.due("back", () -> Edges.number(x.back()), 0);
            E.due("draw", () -> x.draw(1), -1);
            E.due("quickest", () -> x.quickest(0, 1), 0);
            E.none("risk", () -> x.risk(0));
            E.none("race", () -> x.race(0, 0));
            E.none("ballot", () -> x.ballot(0, 0, 0));
            E.none("times", () -> x.times(0));
            E.none("drawn", () -> x.drawn(0));
            E.none("riskAt", () -> x.riskAt(0, 0));
            E.due("rule", () -> x.rule(2, 1), 100);
            E.due("it is an ACT all the same", () -> x.count(10), 1);
        });
    }

    private static void votes() {
        E.edge(0, "(of several the least); the RIGHT one: likewise by HAND", () -> {
            DrawnBallots x = Feeder.made("race 4 poll;ballots 2 3;ballots 2 1;ballots 2 2;ballots 1 0;");
            E.due("the WINNER of 1, 2, 3", () -> x.race(0, 2), 1);
            E.due("the RIGHT one of 1, 2, 3", () -> x.race(0, 3), 1);
            x.paper(2, 0, -1);
            E.due("the RIGHT one of 2, 3", () -> x.race(0, 3), 2);
            x.paper(3, 0, 0);
            E.due("the RIGHT one of 0, 2, 3", () -> x.race(0, 3), 0);
            x.paper(4, 0, 3);
            E.due("the RIGHT one, 3 alone", () -> x.race(0, 3), 3);
            E.due("the WINNER stays", () -> x.race(0, 2), 1);
            DrawnBallots blank = Feeder.made("race 3 poll;ballots 5 blank;ballots 5 off;paper 7 0 2;");
            E.due("the WINNER of none with VOTES", () -> blank.race(0, 2), 0);
            E.due("the RIGHT one by a single PAPER", () -> blank.race(0, 3), 2);
            DrawnBallots none = Feeder.made(EMPTY);
            E.due("the WINNER without BALLOTS", () -> none.race(1, 2), 0);
            E.due("the RIGHT one without BALLOTS", () -> none.race(1, 3), 0);
        });
        E.edge(0, "MARGIN: VOTES of the WINNER less the most of another one's", () -> {
            E.due("as many", margin("race 3 poll;ballots 3 1;ballots 3 2;ballots 1 0;"), 0);
            E.due("one more", margin("race 3 poll;ballots 3 1;ballots 4 2;ballots 1 0;"), 1);
            E.due("all", margin("race 4 poll;ballots 99 3;ballots 99 3;ballots 2 3;"), 200);
            E.due("none has any", margin("race 2 poll;ballots 9 blank;"), 0);
            E.due("without BALLOTS", margin("race 2 poll;"), 0);
            E.due("papers have no part", margin("race 2 poll;ballots 3 1;ballots 1 0;paper 0 0 0;paper 1 0 off;"), 2);
            E.due("papers have no part", margin("race 3 poll;ballots 5 2;ballots 3 1;ballots 1 0;paper 5 0 0;paper 6 0 0;"), 2);
        });
    }

    private static long margin(String text) {
        return Feeder.made(text).race(0, 4);
    }

    /** The MISTAKES of what is recorded (a row) by what is on PAPER: 0, 1, .., blank, off. */
    private static void mistakesAre(String text, int[][] mistakes) {
        int last = mistakes.length - 1;
        for (int r = 0; r <= last; r++) {
            for (int p = 0; p <= last; p++) {
                DrawnBallots x = Feeder.made(text);
                int recorded = x.ballot(r, 0, 0);
                int paper = x.ballot(p, 0, 0);
                x.paper(r, 0, paper);
                E.due("mistake of " + recorded + " with " + paper + " on paper", x.ballot(r, 0, 2), mistakes[r][p]);
            }
        }
    }

    private static void mistakes() {
        E.edge(0, "of all other CANDIDATES the greatest number of:", () -> {
            mistakesAre("race 3 compare;ballots 1 0;ballots 1 1;ballots 1 2;ballots 1 blank;ballots 1 off;ballots 9 0;",
                new int[][] {{0, 2, 2, 1, 1}, {-1, 0, 1, 0, 0}, {-1, 1, 0, 0, 0}, {-1, 1, 1, 0, 0}, {-1, 1, 1, 0, 0}});
        });
        E.edge(0, "less (likewise by PAPER): -2 to 2", () -> {
            mistakesAre("race 2 compare;ballots 1 0;ballots 1 1;ballots 1 blank;ballots 1 off;ballots 9 0;",
                new int[][] {{0, 2, 1, 1}, {-2, 0, -1, -1}, {-1, 1, 0, 0}, {-1, 1, 0, 0}});
        });
    }

    private static void draws() {
        E.edge(0, "x (SEED at first) becomes x times 1103515245 and 12345 (an int that wraps)", () -> {
            for (int seed : new int[] {0, 1, 2, 65535, 123456, 999999}) {
                DrawnBallots x = Feeder.made("race 2 compare;ballots 99 0;ballots 99 1;ballots 2 blank;most 300;seed " + seed + ";");
                int[] due = Draws.of(seed, 200, 300);
                E.due("draws of seed " + seed, x.draw(300), 300);
                for (int k = 0; k < 300; k++) {
                    E.due("draw " + k + " of seed " + seed, x.drawn(k), due[k]);
                }
            }
        });
        E.edge(0, "its bits 16 to 30 MOD BALLOTS is the BALLOT drawn (it may be drawn again)", () -> {
            DrawnBallots x = Feeder.made(EIGHT_TWO);
            x.draw(9);
            for (int k = 0; k < 9; k++) {
                E.due("draw " + k + " of 10", x.drawn(k), SEVEN[k]);
            }
            E.due("drawn again", () -> x.times(4), 3);
            DrawnBallots one = Feeder.made("race 2 poll;ballots 1 blank;most 50;seed 9;");
            E.due("draws of one", () -> one.draw(300), 50);
            for (int k = 0; k < 50; k++) {
                E.due("draw " + k + " of one", one.drawn(k), 0);
            }
            E.due("drawn again and again", () -> one.times(0), 50);
        });
    }

    private static void risks() {
        E.edge(0, "RISK (parts of 1000000000; 1000000000 at first) of a RACE", () -> {
            E.due("by COMPARE", () -> Feeder.made(EIGHT_TWO).risk(0), WHOLE);
            E.due("by POLL", () -> Feeder.made("race 2 poll;ballots 3 1;").risk(0), WHOLE);
            E.due("without BALLOTS", () -> Feeder.made(EMPTY).risk(1), WHOLE);
        });
        E.edge(0, "by (BALLOTS times (FACTOR less 50 times its MISTAKE)), rounded up", () -> {
            DrawnBallots x = Feeder.made(EIGHT_TWO);
            x.draw(9);
            for (int k = 0; k <= 9; k++) {
                E.due("RISK behind " + k, x.riskAt(0, k), QUARTERS[k]);
            }
            // The least FACTOR with the greatest MISTAKE: (101 * 4 - 50 * 4) / (4 * 1) = 51.
            DrawnBallots two = Feeder.made("race 2 compare;ballots 4 0;factor 101;paper 0 0 1;paper 1 0 blank;");
            E.due("a MISTAKE of 2", () -> two.next(0, 0), 51 * WHOLE);
            E.due("a MISTAKE of 1, 204 by 204", () -> two.next(0, 1), WHOLE);
            E.due("none, 204 by 404", () -> two.next(0, 2), 504950496);
            // (101 * 4 - 50 * 1) = 354 by 4 * 151 and 4 * 201.
            DrawnBallots less = Feeder.made("race 2 compare;ballots 2 0;ballots 1 1;ballots 1 off;factor 101;paper 2 0 0;paper 3 0 0;");
            E.due("a MISTAKE of -1", () -> less.next(0, 3), 586092716);
            E.due("a MISTAKE of -2", () -> less.next(0, 2), 440298508);
            // The greatest FACTOR, 200 BALLOTS for one: 50000 by 60000 and by 40000.
            DrawnBallots all = Feeder.made("race 2 compare;ballots 99 0;ballots 99 0;ballots 2 0;factor 300;paper 199 0 1;");
            E.due("none, 5/6", () -> all.next(0, 0), 833333334);
            E.due("a MISTAKE of 2, 5/4", () -> all.next(0, 199), 1250000000);
        });
        E.edge(0, "rounded up (10 to the 13, if what it is divided by is 0)", () -> {
            DrawnBallots x = Feeder.made("race 3 poll;ballots 6 0;ballots 3 1;ballots 1 blank;paper 0 0 2;paper 1 0 1;");
            E.due("the WINNER, (6 + 3) / 12, (6 + 0) / 12", () -> x.next(0, 2), 750000000);
            E.due("another one, (6 + 3) / 6", () -> x.next(0, 6), 1500000000);
            E.due("another one on PAPER alone", () -> x.next(0, 1), 1500000000);
            E.due("one without VOTES", () -> x.next(0, 0), TOP);
            E.due("a blank one", () -> x.next(0, 9), WHOLE);
            DrawnBallots third = Feeder.made("race 2 poll;ballots 3 0;ballots 1 1;ballots 3 off;");
            E.due("(3 + 1) / 6", () -> third.next(0, 0), 666666667);
            E.due("(3 + 1) / 2", () -> third.next(0, 3), 2 * WHOLE);
            E.due("it isn't on it", () -> third.next(0, 6), WHOLE);
            DrawnBallots wrong = Feeder.made("race 2 poll;ballots 3 0;ballots 1 1;paper 0 0 1;paper 1 0 1;");
            E.due("the WINNER, if it isn't the RIGHT one", () -> wrong.next(0, 2), 666666667);
            E.due("the RIGHT one, if it isn't the WINNER", () -> wrong.next(0, 0), 2 * WHOLE);
            DrawnBallots none = Feeder.made("race 2 poll;ballots 3 blank;paper 0 0 0;paper 1 0 1;");
            E.due("the WINNER without VOTES", () -> none.next(0, 0), TOP);
            E.due("the other one without VOTES", () -> none.next(0, 1), TOP);
            E.due("blank, without VOTES", () -> none.next(0, 2), WHOLE);
        });
        E.edge(0, "RISK is the greatest of them", () -> {
            DrawnBallots x = Feeder.made("race 4 poll;ballots 6 1;ballots 3 0;ballots 2 3;ballots 1 2;seed 3;limit 1;");
            for (int k = 0; k < 20; k++) {
                x.draw(1);
                long greatest = Math.max(x.riskOf(0, 0), Math.max(x.riskOf(0, 2), x.riskOf(0, 3)));
                E.due("behind " + (k + 1), x.risk(0), greatest);
            }
        });
    }

    private static void risksOfNone() {
        E.edge(0, "(All these: 1 at least, 10 to the 13 at most,", () -> {
            DrawnBallots x = Feeder.made("race 2 compare;ballots 4 0;factor 101;paper 0 0 1;paper 1 0 1;paper 2 0 1;paper 3 0 1;limit 500;most 300;");
            x.draw(300);
            // Times 51: 51, 2601, then 132651 thousand millions, which is more than 10 to the 13.
            E.due("behind 1", () -> x.riskAt(0, 1), 51 * WHOLE);
            E.due("behind 2", () -> x.riskAt(0, 2), 2601 * WHOLE);
            E.due("behind 3", () -> x.riskAt(0, 3), TOP);
            E.due("behind 300", () -> x.riskAt(0, 300), TOP);
            x.paper(3, 0, 0);
            long most = x.risk(0);
            E.due("204 by 404 of what is near the most", () -> x.next(0, 3), (most * 204 + 403) / 404);
            // As many VOTES for 0 and 1, so RISK stays; of 2, without VOTES, it is half of itself each draw, rounded up.
            DrawnBallots half = Feeder.made("race 3 poll;ballots 1 0;ballots 1 1;paper 1 0 0;most 300;");
            half.draw(28);
            E.due("behind 28", () -> half.riskOf(0, 2), 4);
            half.draw(1);
            E.due("behind 29", () -> half.riskOf(0, 2), 2);
            half.draw(1);
            E.due("behind 30", () -> half.riskOf(0, 2), 1);
            half.draw(1);
            E.due("behind 31", () -> half.riskOf(0, 2), 1);
            half.draw(300);
            E.due("behind 300", () -> half.riskOf(0, 2), 1);
            E.due("RISK", () -> half.risk(0), WHOLE);
            DrawnBallots poll = Feeder.made("race 2 poll;ballots 9 0;ballots 1 1;limit 1;most 300;"
                + "paper 0 0 1;paper 1 0 1;paper 2 0 1;paper 3 0 1;paper 4 0 1;paper 5 0 1;paper 6 0 1;paper 7 0 1;paper 8 0 1;");
            poll.draw(5);
            E.due("5 to the 5", () -> poll.risk(0), 3125 * WHOLE);
            poll.draw(1);
            E.due("no more than the most", () -> poll.risk(0), TOP);
            poll.draw(300);
            E.due("behind 300", () -> poll.risk(0), TOP);
        });
        E.edge(0, "and that, if there are no BALLOTS to divide by.)", () -> {
            DrawnBallots x = Feeder.made(EMPTY);
            for (int race = 0; race < 2; race++) {
                int r = race;
                E.due("no draw ever: RISK of " + r, () -> x.risk(r), WHOLE);
                E.due("no draw ever: RISK behind none", () -> x.riskAt(r, 0), WHOLE);
                E.due("never little enough: NEED", () -> x.need(r, 0, 0), -1);
                E.due("never little enough: NEED with MISTAKES", () -> x.need(r, 3, 3), -1);
                E.due("never little enough: more", () -> x.more(r), -1);
            }
        });
    }

    private static void done() {
        E.edge(0, "A RACE is DONE as soon as its RISK is LIMIT times 1000000 or less: its RISK stays then", () -> {
            // 0.6 of itself each draw: 0.36 behind 2, 0.216 behind 3.
            String text = "race 2 compare;ballots 5 0;factor 125;limit ";
            int[] limits = {359, 360, 361, 216, 215, 217};
            int[] behind = {3, 2, 2, 3, 4, 3};
            for (int k = 0; k < limits.length; k++) {
                DrawnBallots x = Feeder.made(text + limits[k] + ";");
                x.draw(300);
                E.due("by a LIMIT of " + limits[k], x.race(0, 6), behind[k]);
                E.due("draws by a LIMIT of " + limits[k], x.count(5), behind[k]);
            }
            // Each of 0.5: by 500 behind 1, by 499 behind 2.
            for (int limit : new int[] {500, 499}) {
                DrawnBallots y = Feeder.made("race 2 poll;ballots 5 0;limit " + limit + ";");
                y.draw(300);
                E.due("by POLL and a LIMIT of " + limit, y.race(0, 6), limit == 500 ? 1 : 2);
            }
            DrawnBallots z = Feeder.made(TWO_RACES);
            z.draw(2);
            E.due("one is DONE behind 2", () -> z.race(0, 6), 2);
            E.due("the other isn't", () -> z.race(1, 5), 0);
            z.draw(1);
            E.due("the other is behind 3", () -> z.race(1, 6), 3);
            E.due("the first one stays DONE behind 2", () -> z.race(0, 6), 2);
            E.due("its RISK stays", () -> z.risk(0), 297520662);
            E.due("its RISK behind 3 draws", () -> z.riskAt(0, 3), 297520662);
            E.due("the other's RISK", () -> z.risk(1), 257700978);
        });
        E.edge(0, "(BALLOTS that are drawn count for all others, too.)", () -> {
            DrawnBallots x = Feeder.made(TWO_RACES);
            x.draw(300);
            E.due("one draw for all RACES", () -> x.count(5), 3);
            E.due("draws without a MISTAKE in the first one", () -> x.mistakes(0, 0), 3);
            E.due("draws without a MISTAKE in the other one", () -> x.mistakes(1, 0), 3);
        });
    }

    private static void over() {
        E.edge(0, "till all RACES are DONE (OVER) or MOST BALLOTS are drawn (then all that aren't DONE are COUNTED BY HAND)", () -> {
            int[][] due = {
                // By MOST: draws, RACES DONE, OVER, by hand.
                {1, 1, 0, 0, 1}, {2, 2, 1, 0, 1}, {3, 3, 2, 1, 0}, {4, 3, 2, 1, 0}};
            for (int[] row : due) {
                DrawnBallots x = Feeder.made(TWO_RACES + "most " + row[0] + ";");
                E.due("draws by " + row[0], x.draw(300), row[1]);
                E.due("DONE by " + row[0], x.count(7), row[2]);
                E.due("OVER by " + row[0], x.count(8), row[3]);
                E.due("by hand by " + row[0], x.count(9), row[4]);
            }
            // As many for 0 as for 1, and by hand more for 1 in the first RACE.
            DrawnBallots y = Feeder.made("race 2 compare;ballots 5 0;ballots 5 1;most 1;paper 0 0 1;");
            y.draw(1);
            E.due("COUNTED BY HAND the RIGHT one wins", () -> y.race(0, 7), 1);
            DrawnBallots z = Feeder.made(TWO_RACES + "most 2;paper 9 1 off;");
            z.draw(2);
            E.due("the one that is DONE isn't COUNTED BY HAND", () -> z.race(0, 7), 0);
        });
    }

    private static void drawsThatCount() {
        E.edge(0, "What THE AUDIT knows is made anew by all draws so far, whenever a PAPER, a WAY, LIMIT, FACTOR changes", () -> {
            DrawnBallots x = Feeder.made(EIGHT_TWO);
            x.draw(4);
            x.paper(4, 0, -1);
            // 4 6 8 4: 9/7 for the first and the last one, 3/4 for those between, each rounded up.
            E.due("PAPER, behind 1", () -> x.riskAt(0, 1), 1285714286);
            E.due("PAPER, behind 3", () -> x.riskAt(0, 3), 723214287);
            E.due("PAPER, behind 4", () -> x.risk(0), 929846941);
            E.due("PAPER, MISTAKES of 1", () -> x.mistakes(0, 1), 2);
            x.paper(4, 0, 0);
            E.due("PAPER as it was", () -> x.risk(0), 316406250);
            x.way(0, 1);
            // 5/8, 5/8, then 5/2 and 5/8.
            E.due("WAY", () -> x.risk(0), 610351563);
            x.way(0, 0);
            E.due("WAY as it was", () -> x.risk(0), 316406250);
            x.rule(0, 317);
            E.due("LIMIT", () -> x.race(0, 6), 4);
            x.rule(0, 316);
            E.due("LIMIT of one less", () -> x.race(0, 6), -1);
            x.rule(1, 300);
            E.due("FACTOR, 0.9 to the 4", () -> x.risk(0), 656100000);
            x.rule(1, 120);
            E.due("FACTOR as it was", () -> x.risk(0), 316406250);
            E.due("draws stay", () -> x.count(5), 4);
        });
        E.edge(0, "(the draws stay; draws behind which it would have been OVER count no more;", () -> {
            DrawnBallots x = Feeder.made(EIGHT_TWO);
            x.draw(9);
            // 0.4218 behind 3 is the first one below 0.422.
            x.rule(0, 422);
            E.due("draws that count", () -> x.count(5), 3);
            E.due("unlike BALLOTS", () -> x.count(6), 3);
            E.due("DONE behind", () -> x.race(0, 6), 3);
            E.due("the last draw that counts", () -> x.drawn(2), 8);
            E.none("the next counts no more", () -> x.drawn(3));
            E.none("nor its RISK", () -> x.riskAt(0, 4));
            E.due("nor a BALLOT of it", () -> x.times(4), 1);
            E.due("nor a MISTAKE of it", () -> x.mistakes(0, 0), 3);
            E.due("it is OVER", () -> x.draw(1), -1);
            x.rule(0, 421);
            E.due("one more by a LIMIT of one less", () -> x.count(5), 4);
            x.rule(0, 100);
            E.due("the draws stay", () -> x.count(5), 9);
            x.rule(0, 75);
            E.due("0.0751 isn't 0.075", () -> x.count(8), 0);
            E.due("one draw more", () -> x.draw(300), 1);
            x.rule(0, 76);
            E.due("that one counts no more", () -> x.count(5), 9);
            x.way(0, 1);
            // 5/8 for a PAPER of 0, 10/4 for one of 1: 8, the third one, is of 1.
            E.due("by POLL", () -> x.riskAt(0, 3), 976562500);
        });
        E.edge(0, "MOST doesn't change how many were drawn)", () -> {
            DrawnBallots x = Feeder.made(EIGHT_TWO);
            x.draw(5);
            x.rule(2, 1);
            E.due("5 by a MOST of 1", () -> x.count(5), 5);
            E.due("all that isn't DONE is by hand", () -> x.count(9), 1);
            E.due("no draw", () -> x.draw(1), -1);
            x.rule(2, 5);
            E.due("by hand by a MOST of 5", () -> x.count(9), 1);
            E.due("no draw", () -> x.draw(1), -1);
            x.rule(2, 6);
            E.due("not by hand by a MOST of 6", () -> x.count(9), 0);
            E.due("one draw", () -> x.draw(300), 1);
            x.rule(2, 2);
            x.rule(0, 400);
            E.due("made anew, 4 by a MOST of 2", () -> x.count(5), 4);
            E.due("OVER", () -> x.count(8), 1);
            E.due("none by hand", () -> x.count(9), 0);
            x.rule(0, 100);
            E.due("6 by a MOST of 2", () -> x.count(5), 6);
        });
    }

    private static void count() {
        E.edge(5, "5 draws that count, 6 unlike BALLOTS drawn by these, 7 RACES that are DONE", () -> {
            DrawnBallots x = Feeder.made(EIGHT_TWO);
            counts(x, 1, 10, 100, 120, 100, 0, 0, 0, 0, 0, 0, 0);
            int[] unlike = {1, 2, 3, 3, 4, 5, 5, 6, 6};
            for (int k = 0; k < 9; k++) {
                x.draw(1);
                E.due("draws", x.count(5), k + 1);
                E.due("unlike behind " + (k + 1), x.count(6), unlike[k]);
                E.due("DONE behind " + (k + 1), x.count(7), k == 8 ? 1 : 0);
            }
        });
        E.edge(5, "8 whether it is OVER (1, 0; without RACES 1)", () -> {
            E.due("without RACES", () -> new DrawnBallots().count(8), 1);
            E.due("without BALLOTS", () -> Feeder.made(EMPTY).count(8), 0);
            DrawnBallots x = Feeder.made(EIGHT_TWO);
            x.draw(8);
            E.due("one draw ahead", () -> x.count(8), 0);
            x.draw(1);
            E.due("with the last one", () -> x.count(8), 1);
        });
        E.edge(5, "9 whether RACES are COUNTED BY HAND (1, 0)", () -> {
            E.due("without RACES", () -> new DrawnBallots().count(9), 0);
            E.due("without BALLOTS", () -> Feeder.made(EMPTY).count(9), 0);
            DrawnBallots x = Feeder.made(EIGHT_TWO + "most 8;");
            x.draw(7);
            E.due("one draw ahead", () -> x.count(9), 0);
            x.draw(1);
            E.due("MOST are drawn", () -> x.count(9), 1);
            DrawnBallots y = Feeder.made(EIGHT_TWO + "most 9;");
            y.draw(9);
            E.due("OVER by the last of MOST", () -> y.count(9), 0);
        });
        E.edge(5, "10 ACTS that are kept, 11 bytes of the tape", () -> {
            DrawnBallots x = Feeder.made(EIGHT_TWO);
            E.due("no ACTS", () -> x.count(10), 0);
            E.due("an empty tape", () -> x.count(11), 0);
            for (int k = 1; k <= 13; k++) {
                x.rule(2, k);
                E.due("ACTS behind " + k, x.count(10), Math.min(k, 12));
            }
            for (int k = 1; k <= 31; k++) {
                x.feed(0, 0, 0, 0, 0);
                E.due("bytes behind " + k, x.count(11), 20 * Math.min(k, 30));
            }
        });
        E.edge(5, "NoSuchElementException: another what", () -> E.refusedBeside("count", 0, 11, DrawnBallots::count));
    }

    private static void race() {
        E.edge(6, "5 whether it is DONE (1, 0), 6 behind how many draws it was DONE (NONE)", () -> {
            DrawnBallots x = Feeder.made(EIGHT_TWO);
            E.due("nothing drawn: DONE", () -> x.race(0, 5), 0);
            E.due("nothing drawn: behind", () -> x.race(0, 6), -1);
            x.draw(8);
            E.due("one ahead: DONE", () -> x.race(0, 5), 0);
            E.due("one ahead: behind", () -> x.race(0, 6), -1);
            x.draw(1);
            E.due("DONE", () -> x.race(0, 5), 1);
            E.due("behind", () -> x.race(0, 6), 9);
            x.undo();
            E.due("UNDONE: behind", () -> x.race(0, 6), -1);
            E.due("UNDONE: DONE", () -> x.race(0, 5), 0);
        });
        E.edge(6, "the WINNER, if it is DONE, the RIGHT one, if it is COUNTED BY HAND, else NONE", () -> {
            String wrong = "race 2 compare;ballots 9 0;ballots 1 1;seed 7;limit 500;paper 2 0 1;paper 3 0 1;paper 7 0 1;paper 5 0 1;paper 0 0 1;";
            DrawnBallots x = Feeder.made(wrong);
            E.due("nothing drawn", () -> x.race(0, 7), -1);
            // 4, 6: without a MISTAKE, (1100 - 400) / 1100 twice is 0.405.
            x.draw(1);
            E.due("one ahead", () -> x.race(0, 7), -1);
            x.draw(1);
            E.due("DONE", () -> x.race(0, 7), 0);
            E.due("though the RIGHT one is", () -> x.race(0, 3), 1);
            DrawnBallots last = Feeder.made("race 4 poll;ballots 2 3;limit 500;");
            last.draw(1);
            E.due("DONE, and the last one is the WINNER", () -> last.race(0, 7), 3);
            DrawnBallots y = Feeder.made(wrong + "most 1;");
            y.draw(1);
            E.due("COUNTED BY HAND", () -> y.race(0, 7), 1);
            y.rule(2, 2);
            E.due("not COUNTED BY HAND any more", () -> y.race(0, 7), -1);
        });
        E.edge(6, "NoSuchElementException: no such RACE, another what.", () -> {
            E.noRace("race(.., 0)", (x, race) -> x.race(race, 0));
            E.refusedBeside("race(0, ..)", 0, 7, (x, what) -> x.race(0, what));
        });
    }

    private static void riskAndRiskOf() {
        E.edge(7, "RISK of a RACE. NoSuchElementException: no such RACE.", () -> E.noRace("risk", DrawnBallots::risk));
        E.edge(8, "(by COMPARE RISK; of the WINNER 0)", () -> {
            DrawnBallots x = Feeder.made("race 3 compare;race 3 poll;ballots 6 1 2;ballots 4 0 off;limit 200;");
            for (int k = 0; k < 4; k++) {
                E.due("the WINNER by COMPARE", x.riskOf(0, 1), 0);
                E.due("0 by COMPARE", x.riskOf(0, 0), x.risk(0));
                E.due("2 by COMPARE", x.riskOf(0, 2), x.risk(0));
                E.due("the WINNER by POLL", x.riskOf(1, 2), 0);
                E.due("the others of two without VOTES", x.riskOf(1, 0), x.riskOf(1, 1));
                x.draw(1);
            }
            DrawnBallots z = Feeder.made("race 2 compare;race 2 poll;ballots 3 0 0;paper 0 0 1;paper 1 0 1;paper 0 1 1;paper 1 1 1;");
            for (int race = 0; race < 2; race++) {
                E.due("the RIGHT one is another one", z.race(race, 3), 1);
                E.due("the WINNER, if it isn't the RIGHT one", z.riskOf(race, 0), 0);
                E.due("the RIGHT one, if it isn't the WINNER", z.riskOf(race, 1), WHOLE);
            }
            DrawnBallots y = Feeder.made(EMPTY);
            E.due("the WINNER by COMPARE without BALLOTS", () -> y.riskOf(0, 0), 0);
            E.due("the WINNER by POLL without BALLOTS", () -> y.riskOf(1, 0), 0);
            E.due("another one without BALLOTS", () -> y.riskOf(1, 2), WHOLE);
        });
        E.edge(8, "NoSuchElementException: no such RACE, CANDIDATE.", () -> {
            E.noRace("riskOf(.., 0)", (x, race) -> x.riskOf(race, 0));
            E.refusedBeside("riskOf(0, ..)", 0, Scene.CANDIDATES - 1, (x, candidate) -> x.riskOf(0, candidate));
            DrawnBallots x = Feeder.made("race 4 poll;race 2 poll;");
            E.due("the 4th of four", () -> x.riskOf(0, 3), WHOLE);
            E.none("a 5th of four", () -> x.riskOf(0, 4));
            E.none("a 3rd of two", () -> x.riskOf(1, 2));
            E.none("a 4th of two", () -> x.riskOf(1, 3));
        });
    }

    private static void worst() {
        E.edge(9, "(of several the least)", () -> {
            DrawnBallots x = Feeder.made("race 2 compare;race 2 poll;ballots 1 blank 0;ballots 8 0 0;ballots 1 0 1;paper 0 0 0;");
            E.due("the first without a MISTAKE below 0", () -> x.worst(0), 1);
            E.due("the only one of the other by POLL", () -> x.worst(1), 9);
            x.paper(7, 0, 1);
            x.paper(5, 0, 1);
            x.paper(3, 0, -1);
            E.due("the first with a MISTAKE of 2", () -> x.worst(0), 5);
            x.paper(6, 1, 1);
            E.due("the first with the other on PAPER", () -> x.worst(1), 6);
            DrawnBallots y = Feeder.made(EIGHT_TWO);
            y.paper(3, 0, 1);
            y.draw(300);
            E.due("DONE, so all are the same", () -> y.worst(0), 0);
        });
        E.edge(9, "NONE: there are no BALLOTS. NoSuchElementException: no such RACE.", () -> {
            E.due("by COMPARE", () -> Feeder.made(EMPTY).worst(0), -1);
            E.due("by POLL", () -> Feeder.made(EMPTY).worst(1), -1);
            E.due("one BALLOT", () -> Feeder.made("race 2 poll;ballots 1 0;").worst(0), 0);
            E.noRace("worst", DrawnBallots::worst);
        });
    }

    private static void say() {
        E.edge(13, "of each RACE c (COMPARE) or p (POLL), its WINNER (a to d)", () -> {
            for (int winner = 0; winner < 4; winner++) {
                String text = "race 4 poll;race 4 compare;ballots 3 " + winner + " " + (3 - winner) + ";";
                String due = "p" + "abcd".charAt(winner) + ":1000,c" + "dcba".charAt(winner) + ":1000?";
                E.due("winner " + winner, Feeder.said(Feeder.made(text)), due);
            }
        });
        E.edge(13, "then ! and behind how many draws, if it is DONE, else : and its RISK by 1000000 (cut)", () -> {
            DrawnBallots x = Feeder.made(EIGHT_TWO + "limit 57;");
            String[] said = {"1000?", "750?", "562?", "421?", "316?", "237?", "177?", "133?", "100?", "75?"};
            for (int k = 0; k < 10; k++) {
                E.due("behind " + k, Feeder.said(x), "ca:" + said[k]);
                x.draw(1);
            }
            E.due("DONE behind 10", Feeder.said(x), "ca!10");
            DrawnBallots last = Feeder.made(EIGHT_TWO + "limit 1;");
            last.draw(24);
            E.due("0.001003", Feeder.said(last), "ca:1?");
            last.draw(1);
            E.due("0.0007526", Feeder.said(last), "ca!25");
            DrawnBallots first = Feeder.made("race 2 poll;ballots 1 1;limit 500;");
            first.draw(1);
            E.due("DONE behind 1", Feeder.said(first), "pb!1");
            DrawnBallots top = Feeder.made("race 2 poll;ballots 1 0;paper 0 0 1;");
            top.draw(1);
            E.due("the greatest RISK", Feeder.said(top), "pa:10000000?");
        });
        E.edge(13, "commas between; ? at the end, if it isn't OVER, ; if RACES are COUNTED BY HAND (no ? then): how many bytes", () -> {
            DrawnBallots none = new DrawnBallots();
            E.due("without RACES", none::say, 0);
            E.due("without RACES", Feeder.said(none), "");
            E.due("without BALLOTS", Feeder.said(Feeder.made(EMPTY)), "ca:1000,pa:1000?");
            DrawnBallots x = Feeder.made(TWO_RACES);
            x.draw(1);
            E.due("none DONE", Feeder.said(x), "ca:545,ca:636?");
            x.draw(1);
            E.due("one DONE", Feeder.said(x), "ca!2,ca:404?");
            x.rule(2, 2);
            E.due("one by hand", Feeder.said(x), "ca!2,ca:404;");
            x.rule(2, 3);
            x.draw(1);
            E.due("OVER by the last of MOST", Feeder.said(x), "ca!2,ca!3");
            String wrong = "race 2 poll;race 2 poll;race 2 poll;ballots 1 0 0 0;paper 0 0 1;paper 0 1 1;paper 0 2 1;most 1;";
            DrawnBallots longest = Feeder.made(wrong);
            longest.draw(1);
            E.due("bytes of the longest", longest::say, 36);
            E.due("the longest", Feeder.said(longest), "pa:10000000,pa:10000000,pa:10000000;");
        });
    }

    private static void said() {
        E.edge(14, "Byte i of what the latest say() SAID (as it was then, whatever came since)", () -> {
            DrawnBallots x = Feeder.made(EIGHT_TWO);
            x.say();
            x.draw(1);
            x.way(0, 1);
            x.rule(0, 500);
            x.undo();
            Feeder.ask(x, "many 1=");
            Feeder.election(x, EMPTY);
            String due = "ca:1000?";
            for (int i = 0; i < due.length(); i++) {
                E.due("byte " + i, x.said(i), due.charAt(i));
            }
        });
        E.edge(14, "NONE: there is none such, nothing was SAID", () -> {
            DrawnBallots x = Feeder.made(EIGHT_TWO);
            E.due("nothing was SAID", () -> x.said(0), -1);
            x.say();
            E.due("the first", () -> x.said(0), 'c');
            E.due("the last", () -> x.said(7), '?');
            for (int i : new int[] {-1, 8, 9, 63, 64, Integer.MIN_VALUE, Integer.MAX_VALUE}) {
                E.due("none such at " + i, x.said(i), -1);
            }
            x.draw(300);
            E.due("a shorter one", x::say, 4);
            E.due("its last", () -> x.said(3), '9');
            E.due("of the longer one none is left", () -> x.said(4), -1);
            Feeder.election(x, "race");
            x.back();
            E.due("it is left", () -> x.said(3), '9');
            DrawnBallots none = new DrawnBallots();
            none.say();
            E.due("without RACES", () -> none.said(0), -1);
        });
    }

    private static void votesAndBallot() {
        E.edge(15, "VOTES (hand false), HAND (true) of a CANDIDATE. NoSuchElementException: no such RACE, CANDIDATE.", () -> {
            for (boolean hand : new boolean[] {false, true}) {
                E.noRace("votes, hand " + hand, (x, race) -> x.votes(race, 0, hand));
                E.refusedBeside("votes(0, ..), hand " + hand, 0, Scene.CANDIDATES - 1, (x, candidate) -> x.votes(0, candidate, hand));
            }
            DrawnBallots x = Feeder.made("race 4 poll;race 2 poll;ballots 99 3 1;ballots 99 3 0;ballots 2 3 blank;paper 199 0 0;paper 0 0 off;");
            E.due("all", () -> x.votes(0, 3, false), 200);
            E.due("all but two by HAND", () -> x.votes(0, 3, true), 198);
            E.due("none", () -> x.votes(0, 0, false), 0);
            E.due("one by HAND", () -> x.votes(0, 0, true), 1);
            E.none("a 5th of four", () -> x.votes(0, 4, false));
            E.none("a 3rd of two", () -> x.votes(1, 2, true));
            E.none("a 4th of two", () -> x.votes(1, 3, true));
            E.due("without BALLOTS", () -> Feeder.made(EMPTY).votes(1, 2, true), 0);
        });
        E.edge(16, "NoSuchElementException: no such BALLOT, RACE, another what.", () -> {
            E.noRace("ballot(0, .., 0)", (x, race) -> x.ballot(0, race, 0));
            E.refusedBeside("ballot(.., 0, 0)", 0, Scene.BALLOTS - 1, (x, ballot) -> x.ballot(ballot, 0, 0));
            E.refusedBeside("ballot(0, 0, ..)", 0, 2, (x, what) -> x.ballot(0, 0, what));
            E.none("without BALLOTS", () -> Feeder.made(EMPTY).ballot(0, 0, 0));
            DrawnBallots x = Feeder.made("race 2 poll;ballots 99 0;ballots 99 0;ballots 2 1;paper 199 0 0;");
            E.due("the greatest", () -> x.ballot(199, 0, 2), -2);
            E.none("the next above", () -> x.ballot(200, 0, 2));
            Feeder.election(x, "race 2 poll;ballots 1 0;");
            E.none("none is left of another election", () -> x.ballot(1, 0, 0));
        });
    }

    private static void drawnTimesMistakes() {
        E.edge(17, "The BALLOT of the k-th draw that counts (0 on). NoSuchElementException: there is none such.", () -> {
            E.refusedBeside("drawn", 0, Scene.DRAWS - 1, DrawnBallots::drawn);
            DrawnBallots x = Feeder.made("race 2 compare;ballots 99 0;ballots 99 1;ballots 2 off;most 300;seed 41;");
            E.none("nothing is drawn", () -> x.drawn(0));
            x.draw(300);
            E.due("the last of 300", () -> x.drawn(299), Draws.of(41, 200, 300)[299]);
            E.none("the next", () -> x.drawn(300));
            x.undo();
            E.none("UNDONE", () -> x.drawn(0));
        });
        E.edge(18, "How often a BALLOT was drawn by draws that count. NoSuchElementException: no such BALLOT.", () -> {
            E.refusedBeside("times", 0, Scene.BALLOTS - 1, DrawnBallots::times);
            DrawnBallots x = Feeder.made(EIGHT_TWO);
            x.draw(7);
            int[] times = {0, 1, 0, 0, 3, 1, 1, 0, 1, 0};
            for (int ballot = 0; ballot < 10; ballot++) {
                E.due("times of " + ballot, x.times(ballot), times[ballot]);
            }
            x.undo();
            E.due("UNDONE", () -> x.times(4), 0);
            DrawnBallots all = Feeder.made("race 2 poll;ballots 1 off;most 300;");
            all.draw(300);
            E.due("300 times", () -> all.times(0), 300);
            E.none("without BALLOTS", () -> Feeder.made(EMPTY).times(0));
        });
        E.edge(19, "a MISTAKE (-2 to 2) in a RACE. NoSuchElementException: no such RACE, MISTAKE.", () -> {
            E.noRace("mistakes(.., 0)", (x, race) -> x.mistakes(race, 0));
            E.refusedBeside("mistakes(0, ..)", -2, 2, (x, mistake) -> x.mistakes(0, mistake));
            // 4 6 8 4 1 5 4 0 5 by MISTAKES of 2, 1, -2, 0, .. of these.
            DrawnBallots x = Feeder.made("race 2 compare;ballots 7 0;ballots 1 blank;ballots 2 1;seed 7;limit 1;"
                + "paper 4 0 1;paper 6 0 off;paper 8 0 0;paper 1 0 blank;paper 9 0 blank;");
            int[] none = new int[5];
            int[] nine = {1, 0, 3, 2, 3};
            for (int mistake = -2; mistake <= 2; mistake++) {
                E.due("nothing drawn, of " + mistake, x.mistakes(0, mistake), none[mistake + 2]);
            }
            x.draw(9);
            for (int mistake = -2; mistake <= 2; mistake++) {
                E.due("of " + mistake, x.mistakes(0, mistake), nine[mistake + 2]);
            }
            x.paper(8, 0, -1);
            E.due("one of -1", () -> x.mistakes(0, -1), 1);
            E.due("none of -2", () -> x.mistakes(0, -2), 0);
        });
    }

    private static void riskAt() {
        E.edge(20, "RISK of a RACE behind the first k draws that count (0 on)", () -> {
            DrawnBallots x = Feeder.made("race 2 poll;race 2 compare;ballots 1 0 0;ballots 1 1 1;most 300;");
            E.due("behind none", () -> x.riskAt(0, 0), WHOLE);
            x.draw(300);
            E.due("behind all 300", () -> x.riskAt(1, 300), WHOLE);
            E.none("behind 301", () -> x.riskAt(1, 301));
            DrawnBallots y = Feeder.made(EIGHT_TWO);
            y.draw(2);
            E.due("behind none", () -> y.riskAt(0, 0), WHOLE);
            E.due("behind the last", () -> y.riskAt(0, 2), y.risk(0));
        });
        E.edge(20, "NoSuchElementException: no such RACE, k (more than count).", () -> {
            E.noRace("riskAt(.., 0)", (x, race) -> x.riskAt(race, 0));
            E.refusedBeside("riskAt(0, ..)", 0, Scene.DRAWS, (x, k) -> x.riskAt(0, k));
            DrawnBallots x = Feeder.made(EIGHT_TWO);
            E.none("nothing drawn", () -> x.riskAt(0, 1));
            E.due("nothing drawn, behind none", () -> x.riskAt(0, 0), WHOLE);
        });
    }

    private static void next() {
        E.edge(22, "(as it is, if the RACE is DONE)", () -> {
            DrawnBallots x = Feeder.made(EIGHT_TWO);
            x.paper(3, 0, 1);
            x.draw(8);
            E.due("one ahead, of a MISTAKE of 2", () -> x.next(0, 3), 450508122);
            E.due("one ahead", () -> x.next(0, 0), 75084687);
            x.draw(1);
            E.due("DONE, of a MISTAKE of 2", () -> x.next(0, 3), 75084687);
            E.due("DONE", () -> x.next(0, 0), 75084687);
            E.due("next changes nothing", () -> x.risk(0), 75084687);
            DrawnBallots hand = Feeder.made("race 2 poll;ballots 3 0;ballots 3 off;most 1;seed 3;");
            hand.draw(1);
            long risk = hand.risk(0);
            E.due("COUNTED BY HAND", () -> hand.next(0, 0), risk / 2);
        });
        E.edge(22, "NoSuchElementException: no such RACE, BALLOT.", () -> {
            E.noRace("next(.., 0)", (x, race) -> x.next(race, 0));
            E.refusedBeside("next(0, ..)", 0, Scene.BALLOTS - 1, (x, ballot) -> x.next(0, ballot));
            E.none("without BALLOTS", () -> Feeder.made(EMPTY).next(0, 0));
        });
    }
}
