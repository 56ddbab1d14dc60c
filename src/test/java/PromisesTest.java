import java.util.NoSuchElementException;

/** Each promise by calls whose answers were reckoned by hand from the document. */
public final class PromisesTest {
    private static final Check CHECK = new Check();
    private static final long TOP = 10000000000000L;

    /** 10 ballots, 8 to 2: a draw without a mistake makes the risk (120 * 10 - 50 * 6) / (10 * 120) = 3/4 of itself. */
    private static final String EIGHT_TWO = "race 2 compare;ballots 8 0;ballots 2 1;limit 100;factor 120;seed 7;";
    /** The ballots that seed 7 draws of 10. */
    private static final int[] SEVEN = {4, 6, 8, 4, 1, 5, 4, 0, 5, 3};
    /** The risks of EIGHT_TWO: 3/4 of the one before, rounded up; 100000000 or less behind 10 draws. */
    private static final long[] QUARTERS = {1000000000, 750000000, 562500000, 421875000, 316406250, 237304688,
        177978516, 133483887, 100112916, 75084687};
    /** 10 ballots, 6, 3 and 1 by poll: behind a paper of 0 the risks are 3/4 and 7/12 of themselves, else 3/2, 7/2. */
    private static final String SIX_THREE_ONE = "race 3 poll;ballots 6 0;ballots 3 1;ballots 1 2;limit 200;";

    private interface Call {
        long of();
    }

    public static void main(String[] args) {
        newObject();
        feed();
        election();
        fault();
        count();
        race();
        riskAndRiskOf();
        ownRisks();
        worstAndNext();
        chanceAndEnough();
        flips();
        say();
        votesAndBallot();
        drawnTimesMistakes();
        riskAt();
        draw();
        paper();
        way();
        rule();
        drawsThatCount();
        undo();
        undoOnlyTwelve();
        need();
        needAtItsEdges();
        bestFactor();
        more();
        tries();
        quickest();
        ask();
        imageAndBack();
        edgesOfRisk();
        CHECK.end();
    }

    private static void due(String call, Call got, long want) {
        String answer;
        try {
            answer = Long.toString(got.of());
        } catch (RuntimeException e) {
            answer = "throws " + e;
        }
        CHECK.due(call, answer, Long.toString(want));
    }

    private static void none(String call, Call got) {
        CHECK.due(call, thrown(got), "NoSuchElementException");
    }

    private static void illegal(String call, Call got) {
        CHECK.due(call, thrown(got), "IllegalArgumentException");
    }

    private static String thrown(Call got) {
        try {
            return "answer " + got.of();
        } catch (NoSuchElementException | IllegalArgumentException e) {
            return e.getClass().getSimpleName();
        }
    }

    private static void noRace(String call, DrawnBallots x, java.util.function.IntToLongFunction got) {
        for (int race : new int[] {-1, x.count(0), 3, Integer.MAX_VALUE, Integer.MIN_VALUE}) {
            none(call + " of race " + race, () -> got.applyAsLong(race));
        }
    }

    private static void newObject() {
        DrawnBallots x = new DrawnBallots();
        long[] counts = {0, 0, 50, 110, 100, 0, 0, 0, 1, 0, 0, 0};
        for (int what = 0; what < counts.length; what++) {
            int w = what;
            due("new: count(" + w + ")", () -> x.count(w), counts[w]);
        }
        due("new: fault()", x::fault, -1);
        due("new: undo()", x::undo, -1);
        due("new: say()", x::say, 0);
        due("new: draw(300)", () -> x.draw(300), -1);
        none("new: risk(0)", () -> x.risk(0));
        none("new: times(0)", () -> x.times(0));
    }

    private static void feed() {
        DrawnBallots x = new DrawnBallots();
        for (int k = 1; k <= 30; k++) {
            int bytes = 20 * k;
            due("feed " + k, () -> x.feed(-1, 0, 1, 2, 3), bytes);
        }
        due("feed 31", () -> x.feed(0, 0, 0, 0, 0), -1);
        due("the tape behind feed 31", () -> x.count(11), 600);
        illegal("election(601)", () -> x.election(601));
        due("election(600)", () -> x.election(600), -11);
        due("the tape behind election", () -> x.count(11), 0);
        // "race 2 poll;ballots " by hand: the highest byte of each number first.
        due("feed by hand", () -> x.feed(0x72616365, 0x20322070, 0x6f6c6c3b, 0x62616c6c, 0x6f747320), 20);
        due("feed by hand", () -> x.feed(0x39203020, 0x3b202020, 0x20202020, 0x20202020, 0x20202020), 40);
        due("election(26)", () -> x.election(26), 9);
        // As the README shows it.
        x.feed(0x72616365, 0x20322063, 0x6f6d7061, 0x72653b62, 0x616c6c6f);
        x.feed(0x74732039, 0x20303b62, 0x616c6c6f, 0x74732031, 0x20313b20);
        due("the README's election(40)", () -> x.election(40), 10);
    }

    private static void election() {
        DrawnBallots x = Feeder.made("race 2 poll;ballots 3 0;limit 7;factor 250;most 9;seed 5;");
        x.draw(3);
        Feeder.feed(x, "race 2 compare;");
        illegal("election(-1)", () -> x.election(-1));
        illegal("election(21)", () -> x.election(21));
        due("tape behind an illegal election", () -> x.count(11), 20);
        due("draws behind an illegal election", () -> x.count(5), 3);
        due("election(14)", () -> x.election(14), -11);
        due("tape behind a fault", () -> x.count(11), 0);
        due("ballots behind a fault", () -> x.count(1), 3);
        due("draws behind a fault", () -> x.count(5), 3);
        due("acts behind a fault", () -> x.count(10), 1);
        due("limit behind a fault", () -> x.count(2), 7);
        due("a whole election", () -> Feeder.election(x, "race 2 compare;ballots 99 1;ballots 99 0;ballots 2 blank;"), 200);
        long[] counts = {1, 200, 50, 110, 100, 0, 0, 0, 0, 0, 0, 0};
        for (int what = 0; what < counts.length; what++) {
            int w = what;
            due("anew: count(" + w + ")", () -> x.count(w), counts[w]);
        }
        x.draw(1);
        due("SEED is 0 again", () -> x.drawn(0), 0);
        DrawnBallots three = Feeder.made("race 2 poll;race 3 compare;race 4 poll;ballots 2 1 2 3;paper 1 2 off;paper 0 1 blank;seed 999999;");
        due("ballot told, paper changed", () -> three.ballot(1, 2, 1), -2);
        due("what is recorded stays", () -> three.ballot(1, 2, 0), 3);
        due("ballot told, paper changed", () -> three.ballot(0, 1, 1), -1);
        due("another one's paper stays", () -> three.ballot(1, 1, 1), 2);
    }

    private static void fault() {
        DrawnBallots x = new DrawnBallots();
        Feeder.election(x, "race 2 pall;");
        due("fault of election", x::fault, 7);
        illegal("ask beyond the tape", () -> x.ask(1));
        due("fault stays behind an illegal call", x::fault, 7);
        Feeder.ask(x, "many 1=1;");
        due("fault of ask", x::fault, 8);
        Feeder.election(x, "race 2 poll;");
        due("no fault", x::fault, -1);
        Feeder.ask(x, "many");
        due("fault at the end", x::fault, 4);
        Feeder.ask(x, "many 1=1");
        due("no fault of ask", x::fault, -1);
    }

    private static void count() {
        DrawnBallots x = Feeder.made(EIGHT_TWO);
        none("count(-1)", () -> x.count(-1));
        none("count(12)", () -> x.count(12));
        none("count(least)", () -> x.count(Integer.MIN_VALUE));
        x.draw(8);
        due("draws", () -> x.count(5), 8);
        due("unlike ballots of 4 6 8 4 1 5 4 0", () -> x.count(6), 6);
        due("done", () -> x.count(7), 0);
        due("over", () -> x.count(8), 0);
        x.draw(300);
        due("draws till it is over", () -> x.count(5), 9);
        due("done", () -> x.count(7), 1);
        due("over", () -> x.count(8), 1);
        due("by hand", () -> x.count(9), 0);
        x.rule(2, 1);
        due("over, so none by hand", () -> x.count(9), 0);
        due("acts", () -> x.count(10), 3);
        x.feed(1, 2, 3, 4, 5);
        due("tape", () -> x.count(11), 20);
    }

    private static void race() {
        DrawnBallots x = Feeder.made("race 4 poll;race 2 compare;ballots 2 1 1;ballots 2 3 1;ballots 1 0 0;paper 0 0 3;most 2;");
        due("candidates", () -> x.race(0, 0), 4);
        due("candidates", () -> x.race(1, 0), 2);
        due("poll", () -> x.race(0, 1), 1);
        due("compare", () -> x.race(1, 1), 0);
        due("winner of several the least", () -> x.race(0, 2), 1);
        due("right one", () -> x.race(0, 3), 3);
        due("margin of as many", () -> x.race(0, 4), 0);
        due("margin", () -> x.race(1, 4), 3);
        due("done", () -> x.race(0, 5), 0);
        due("done behind", () -> x.race(0, 6), -1);
        due("wins", () -> x.race(0, 7), -1);
        x.draw(2);
        due("counted by hand, the right one wins", () -> x.race(0, 7), 3);
        due("counted by hand, not done", () -> x.race(0, 5), 0);
        none("race(0, -1)", () -> x.race(0, -1));
        none("race(0, 8)", () -> x.race(0, 8));
        noRace("race(.., 0)", x, race -> x.race(race, 0));
        DrawnBallots y = Feeder.made(EIGHT_TWO);
        y.paper(9, 0, -2);
        y.draw(300);
        due("done", () -> y.race(0, 5), 1);
        due("done behind", () -> y.race(0, 6), 9);
        due("the winner wins", () -> y.race(0, 7), 0);
    }

    private static void riskAndRiskOf() {
        DrawnBallots x = Feeder.made(EIGHT_TWO);
        for (int k = 0; k < QUARTERS.length; k++) {
            long want = QUARTERS[k];
            due("risk behind " + k, () -> x.risk(0), want);
            due("risk of 1 behind " + k, () -> x.riskOf(0, 1), want);
            due("risk of the winner behind " + k, () -> x.riskOf(0, 0), 0);
            x.draw(1);
        }
        noRace("risk", x, x::risk);
        noRace("riskOf(.., 0)", x, race -> x.riskOf(race, 0));
        none("riskOf(0, 2)", () -> x.riskOf(0, 2));
        none("riskOf(0, -1)", () -> x.riskOf(0, -1));
        due("it is over behind 9", () -> x.count(5), 9);
        // Two races, one draw for both: the one that is done stays as it is.
        DrawnBallots y = Feeder.made("race 2 compare;race 2 compare;ballots 9 0 0;ballots 1 0 1;limit 500;factor 110;");
        y.draw(1);
        due("(1100 - 500) / 1100", () -> y.risk(0), 545454546);
        due("(1100 - 400) / 1100", () -> y.risk(1), 636363637);
        y.draw(1);
        due("done", () -> y.risk(0), 297520662);
        due("done", () -> y.risk(1), 404958679);
        riskOfWinners();
    }

    /** Of the WINNER it is 0 by either WAY, whoever it is, drawn or not, with BALLOTS or without. */
    private static void riskOfWinners() {
        DrawnBallots x = Feeder.made("race 3 compare;race 3 poll;ballots 6 1 2;ballots 4 0 off;limit 200;");
        for (int k = 0; k < 3; k++) {
            due("the winner 1 by compare", () -> x.riskOf(0, 1), 0);
            due("0 by compare", () -> x.riskOf(0, 0), x.risk(0));
            due("2 by compare", () -> x.riskOf(0, 2), x.risk(0));
            due("the winner 2 by poll", () -> x.riskOf(1, 2), 0);
            x.draw(2);
        }
        x.way(0, 1);
        due("the winner by poll now", () -> x.riskOf(0, 1), 0);
        x.way(1, 0);
        due("the winner by compare now", () -> x.riskOf(1, 2), 0);
        due("another one by compare now", () -> x.riskOf(1, 0), x.risk(1));
        DrawnBallots none = Feeder.made("race 2 compare;");
        due("the winner without ballots", () -> none.riskOf(0, 0), 0);
        due("the other one without ballots", () -> none.riskOf(0, 1), 1000000000);
    }

    private static void ownRisks() {
        DrawnBallots x = Feeder.made(SIX_THREE_ONE);
        due("of the winner", () -> x.riskOf(0, 0), 0);
        due("at first", () -> x.riskOf(0, 2), 1000000000);
        x.draw(1);
        due("a paper of the winner, 9/12", () -> x.riskOf(0, 1), 750000000);
        due("a paper of the winner, 7/12", () -> x.riskOf(0, 2), 583333334);
        due("the greatest", () -> x.risk(0), 750000000);
        x.draw(1);
        due("a paper of the other one, 9/6", () -> x.riskOf(0, 1), 1125000000);
        due("a paper of a third one", () -> x.riskOf(0, 2), 583333334);
        due("the greatest", () -> x.risk(0), 1125000000);
        x.paper(0, 0, -1);
        due("a blank paper changes none", () -> x.riskOf(0, 1), 1500000000);
        x.paper(0, 0, 2);
        due("a paper of 2, 7/2", () -> x.riskOf(0, 2), 3500000000L);
        due("the greatest", () -> x.risk(0), 3500000000L);
        DrawnBallots y = Feeder.made("race 3 poll;ballots 6 0;ballots 3 1;paper 0 0 2;");
        y.draw(1);
        due("no votes to divide by", () -> y.riskOf(0, 2), TOP);
        due("no votes to divide by", () -> y.risk(0), TOP);
        due("the third one stays", () -> y.riskOf(0, 1), 1000000000);
    }

    private static void worstAndNext() {
        DrawnBallots x = Feeder.made(EIGHT_TWO);
        x.paper(5, 0, -2);
        x.paper(7, 0, 1);
        x.paper(6, 0, 1);
        x.paper(9, 0, 0);
        due("next without a mistake", () -> x.next(0, 0), 750000000);
        due("next with 1: 900 / 700", () -> x.next(0, 5), 1285714286);
        due("next with 2: 900 / 200", () -> x.next(0, 7), 4500000000L);
        due("next with -2: 900 / 2200", () -> x.next(0, 9), 409090910);
        due("worst, of several the least", () -> x.worst(0), 6);
        due("nothing is drawn", () -> x.count(5), 0);
        none("next of no ballot", () -> x.next(0, 10));
        none("next of no ballot", () -> x.next(0, -1));
        noRace("next", x, race -> x.next(race, 0));
        noRace("worst", x, x::worst);
        DrawnBallots done = Feeder.made(EIGHT_TWO);
        done.draw(300);
        due("next of a race that's done", () -> done.next(0, 3), 75084687);
        due("worst of a race that's done", () -> done.worst(0), 0);
        DrawnBallots empty = Feeder.made("race 2 poll;");
        due("worst without ballots", () -> empty.worst(0), -1);
        none("next without ballots", () -> empty.next(0, 0));
        DrawnBallots poll = Feeder.made(SIX_THREE_ONE);
        due("worst by poll", () -> poll.worst(0), 9);
        due("next by poll", () -> poll.next(0, 9), 3500000000L);
        due("its own risks stay", () -> poll.riskOf(0, 2), 1000000000);
    }

    private static void chanceAndEnough() {
        DrawnBallots x = Feeder.made("race 2 compare;ballots 7 0;limit 100;paper 3 0 blank;");
        due("chance 0", () -> x.chance(0, 0), 1000000000);
        due("6/7", () -> x.chance(0, 1), 857142858);
        due("36/49, rounded up twice", () -> x.chance(0, 2), 734693879);
        illegal("chance(0, -1)", () -> x.chance(0, -1));
        illegal("chance(0, 301)", () -> x.chance(0, 301));
        noRace("chance(.., -1), NoSuchElement first", x, race -> x.chance(race, -1));
        due("(6/7)^15 is 0.099", () -> x.enough(0), 15);
        noRace("enough", x, x::enough);
        x.paper(3, 0, 0);
        due("no mistakes", () -> x.enough(0), -1);
        due("no mistakes", () -> x.chance(0, 300), 1000000000);
        for (int ballot = 0; ballot < 7; ballot++) {
            x.paper(ballot, 0, 1);
        }
        due("all have one", () -> x.chance(0, 1), 0);
        due("all have one", () -> x.enough(0), 1);
        DrawnBallots half = Feeder.made("race 2 compare;ballots 2 0;limit 500;paper 1 0 1;");
        due("the limit itself is enough", () -> half.enough(0), 1);
        DrawnBallots less = Feeder.made("race 2 compare;ballots 3 0;ballots 1 1;paper 3 0 0;");
        due("one below 0 is none above 0", () -> less.enough(0), -1);
        DrawnBallots empty = Feeder.made("race 2 poll;");
        due("chance without ballots", () -> empty.chance(0, 300), 1000000000);
        due("enough without ballots", () -> empty.enough(0), -1);
    }

    private static void flips() {
        DrawnBallots x = Feeder.made("race 4 poll;ballots 2 0;ballots 7 1;ballots 5 2;ballots 5 3;");
        due("7 to 5, a greater number needs more", () -> x.flips(0, 0), 2);
        due("of several the least", () -> x.flips(0, 1), 2);
        x.paper(0, 0, -1);
        x.paper(2, 0, 0);
        x.paper(3, 0, 0);
        x.paper(4, 0, 0);
        // By hand now 4, 4, 5, 5: 2 is the right one; 0 needs one paper, 5 to 4 of them, and as many are enough.
        due("one paper", () -> x.flips(0, 0), 1);
        due("a lesser one, of several the least", () -> x.flips(0, 1), 0);
        none("flips(0, 2)", () -> x.flips(0, 2));
        none("flips(0, -1)", () -> x.flips(0, -1));
        noRace("flips", x, race -> x.flips(race, 0));
        DrawnBallots even = Feeder.made("race 2 poll;ballots 2 0;ballots 6 1;");
        due("as many and lesser is ahead", () -> even.flips(0, 0), 2);
        DrawnBallots empty = Feeder.made("race 3 poll;");
        due("also where there are none", () -> empty.flips(0, 0), 1);
        due("also where there are none", () -> empty.flips(0, 1), 1);
    }

    private static void say() {
        DrawnBallots x = Feeder.made("race 2 compare;race 3 poll;ballots 6 1 2;ballots 4 0 off;limit 200;most 4;");
        CHECK.due("said at first", Feeder.said(x), "cb:1000,pc:1000?");
        x.draw(1);
        CHECK.due("said behind a draw", Feeder.said(x), "cb:909,pc:500?");
        x.draw(1);
        due("what was said stays", () -> x.said(3), '9');
        due("said(-1)", () -> x.said(-1), -1);
        due("said(14)", () -> x.said(14), -1);
        due("said(13)", () -> x.said(13), '?');
        x.draw(2);
        CHECK.due("counted by hand", Feeder.said(x), "cb:683,pc:500;");
        x.rule(0, 500);
        CHECK.due("one is done", Feeder.said(x), "cb:683,pc!1;");
        x.rule(2, 300);
        x.draw(300);
        CHECK.due("over", Feeder.said(x), "cb!8,pc!1");
        DrawnBallots top = Feeder.made("race 2 poll;ballots 1 0;paper 0 0 1;");
        top.draw(1);
        CHECK.due("the greatest risk", Feeder.said(top), "pa:10000000?");
        Feeder.election(top, "race 2 poll;");
        due("said behind another election", () -> top.said(0), 'p');
        CHECK.due("without ballots", Feeder.said(top), "pa:1000?");
        DrawnBallots none = new DrawnBallots();
        CHECK.due("without races", Feeder.said(none), "");
        due("said of nothing", () -> none.said(0), -1);
    }

    private static void votesAndBallot() {
        DrawnBallots x = Feeder.made("race 3 compare;ballots 2 0;ballots 1 1;ballots 1 2;ballots 1 blank;ballots 1 off;");
        int[][] mistakes = {
            // Of what is recorded (0, 1, 2, blank, off: ballots 0, 2, 3, 4, 5) with 0, 1, 2, blank, off on paper.
            {0, 2, 2, 1, 1}, {-1, 0, 1, 0, 0}, {-1, 1, 0, 0, 0}, {-1, 1, 1, 0, 0}, {-1, 1, 1, 0, 0}};
        int[] ballots = {0, 2, 3, 4, 5};
        int[] choices = {0, 1, 2, -1, -2};
        for (int r = 0; r < 5; r++) {
            for (int p = 0; p < 5; p++) {
                int ballot = ballots[r];
                int was = choices[p];
                x.paper(ballot, 0, was);
                due("mistake of " + choices[r] + ", " + was, () -> x.ballot(ballot, 0, 2), mistakes[r][p]);
                due("recorded", () -> x.ballot(ballot, 0, 0), choices[r]);
                due("on paper", () -> x.ballot(ballot, 0, 1), was);
            }
            x.paper(ballots[r], 0, choices[r]);
        }
        x.paper(0, 0, 2);
        due("votes", () -> x.votes(0, 0, false), 2);
        due("by hand", () -> x.votes(0, 0, true), 1);
        due("votes", () -> x.votes(0, 2, false), 1);
        due("by hand", () -> x.votes(0, 2, true), 2);
        none("votes(0, 3)", () -> x.votes(0, 3, true));
        none("votes(0, -1)", () -> x.votes(0, -1, false));
        noRace("votes", x, race -> x.votes(race, 0, false));
        none("ballot(6, ..)", () -> x.ballot(6, 0, 0));
        none("ballot(-1, ..)", () -> x.ballot(-1, 0, 0));
        none("ballot(.., 3)", () -> x.ballot(0, 0, 3));
        none("ballot(.., -1)", () -> x.ballot(0, 0, -1));
        noRace("ballot", x, race -> x.ballot(0, race, 0));
        DrawnBallots two = Feeder.made("race 2 compare;ballots 2 0;ballots 1 1;paper 2 0 0;");
        due("-2 with two candidates", () -> two.ballot(2, 0, 2), -2);
    }

    private static void drawnTimesMistakes() {
        DrawnBallots x = Feeder.made(EIGHT_TWO);
        x.paper(4, 0, -1);
        x.paper(8, 0, -2);
        x.draw(7);
        for (int k = 0; k < 7; k++) {
            int at = k;
            due("drawn(" + k + ")", () -> x.drawn(at), SEVEN[k]);
        }
        none("drawn(7)", () -> x.drawn(7));
        none("drawn(-1)", () -> x.drawn(-1));
        due("times(4)", () -> x.times(4), 3);
        due("times(8)", () -> x.times(8), 1);
        due("times(9)", () -> x.times(9), 0);
        none("times(10)", () -> x.times(10));
        none("times(-1)", () -> x.times(-1));
        due("mistakes of 1", () -> x.mistakes(0, 1), 3);
        due("mistakes of 0", () -> x.mistakes(0, 0), 3);
        due("mistakes of -1", () -> x.mistakes(0, -1), 1);
        due("mistakes of -2", () -> x.mistakes(0, -2), 0);
        due("mistakes of 2", () -> x.mistakes(0, 2), 0);
        none("mistakes of 3", () -> x.mistakes(0, 3));
        none("mistakes of -3", () -> x.mistakes(0, -3));
        noRace("mistakes", x, race -> x.mistakes(race, 0));
    }

    private static void riskAt() {
        DrawnBallots x = Feeder.made(EIGHT_TWO);
        x.draw(9);
        for (int k = 0; k <= 9; k++) {
            int at = k;
            due("riskAt(0, " + k + ")", () -> x.riskAt(0, at), QUARTERS[k]);
        }
        none("riskAt(0, 10)", () -> x.riskAt(0, 10));
        none("riskAt(0, -1)", () -> x.riskAt(0, -1));
        noRace("riskAt", x, race -> x.riskAt(race, 0));
        DrawnBallots all = Feeder.made("race 2 poll;ballots 1 0;ballots 1 1;most 300;");
        due("draw(300)", () -> all.draw(300), 300);
        due("none's margin", () -> all.riskAt(0, 300), 1000000000);
    }

    private static void draw() {
        DrawnBallots x = Feeder.made(EIGHT_TWO);
        illegal("draw(0)", () -> x.draw(0));
        illegal("draw(301)", () -> x.draw(301));
        illegal("draw(-1)", () -> x.draw(-1));
        due("draw(4)", () -> x.draw(4), 4);
        due("draw till it's over", () -> x.draw(300), 5);
        due("draw, it is over", () -> x.draw(1), -1);
        illegal("draw(0) ahead of that", () -> x.draw(0));
        due("acts: none for those of none", () -> x.count(10), 2);
        DrawnBallots most = Feeder.made("race 2 poll;ballots 1 0;ballots 1 1;most 5;");
        due("draw till most", () -> most.draw(9), 5);
        due("most are drawn", () -> most.draw(1), -1);
        due("by hand", () -> most.count(9), 1);
        most.rule(2, 6);
        due("not by hand any more", () -> most.count(9), 0);
        due("one more", () -> most.draw(2), 1);
        DrawnBallots empty = Feeder.made("race 2 poll;");
        due("no ballots", () -> empty.draw(1), -1);
        due("no ballots: not over", () -> empty.count(8), 0);
        due("no ballots: not by hand", () -> empty.count(9), 0);
        DrawnBallots three = Feeder.made("race 2 poll;race 2 poll;ballots 3 0 0;ballots 1 0 1;limit 500;");
        due("the slower race has its say", () -> three.draw(300), 2);
        due("the quicker one is done behind 1", () -> three.race(0, 6), 1);
        due("the slower one behind 2", () -> three.race(1, 6), 2);
    }

    private static void paper() {
        DrawnBallots x = Feeder.made(EIGHT_TWO);
        x.draw(3);
        due("paper", () -> x.paper(6, 0, 1), 0);
        due("made anew: 750000000 * 900 / 200, then 3/4", () -> x.risk(0), 2531250000L);
        due("the draws stay", () -> x.count(5), 3);
        due("what it was", () -> x.paper(6, 0, -2), 1);
        due("750000000 * 900 / 700, then 3/4", () -> x.risk(0), 723214287);
        due("what it was", () -> x.paper(6, 0, 0), -2);
        due("as it was", () -> x.risk(0), 421875000);
        due("acts", () -> x.count(10), 4);
        due("an act also if it stays", () -> x.paper(6, 0, 0), 0);
        due("acts", () -> x.count(10), 5);
        none("paper(10, ..)", () -> x.paper(10, 0, 9));
        none("paper(-1, ..)", () -> x.paper(-1, 0, 0));
        noRace("paper", x, race -> x.paper(0, race, 9));
        illegal("paper(.., 2)", () -> x.paper(0, 0, 2));
        illegal("paper(.., -3)", () -> x.paper(0, 0, -3));
        due("no acts of these", () -> x.count(10), 5);
    }

    private static void way() {
        DrawnBallots x = Feeder.made(EIGHT_TWO);
        x.draw(2);
        due("way", () -> x.way(0, 1), 0);
        due("10/16 twice", () -> x.risk(0), 390625000);
        due("way", () -> x.race(0, 1), 1);
        due("what it was", () -> x.way(0, 0), 1);
        due("3/4 twice", () -> x.risk(0), 562500000);
        due("acts", () -> x.count(10), 3);
        illegal("way(0, 2)", () -> x.way(0, 2));
        illegal("way(0, -1)", () -> x.way(0, -1));
        noRace("way", x, race -> x.way(race, 7));
    }

    private static void rule() {
        DrawnBallots x = Feeder.made(EIGHT_TWO);
        x.draw(2);
        due("factor", () -> x.rule(1, 300), 120);
        due("(3000 - 300) / 3000 twice", () -> x.risk(0), 810000000);
        due("factor", () -> x.rule(1, 101), 300);
        due("(1010 - 300) / 1010 twice", () -> x.risk(0), 494167240);
        due("limit", () -> x.rule(0, 500), 100);
        due("done at once", () -> x.count(7), 1);
        due("limit", () -> x.rule(0, 1), 500);
        due("most", () -> x.rule(2, 1), 100);
        due("most doesn't change how many were drawn", () -> x.count(5), 2);
        due("but it's by hand", () -> x.count(9), 1);
        due("most", () -> x.rule(2, 300), 1);
        due("limit", () -> x.count(2), 1);
        due("factor", () -> x.count(3), 101);
        due("most", () -> x.count(4), 300);
        due("acts", () -> x.count(10), 7);
        none("rule(-1, ..)", () -> x.rule(-1, 0));
        none("rule(3, ..)", () -> x.rule(3, 0));
        int[][] wrong = {{0, 0}, {0, 501}, {1, 100}, {1, 301}, {2, 0}, {2, 301}, {2, -1}};
        for (int[] w : wrong) {
            illegal("rule(" + w[0] + ", " + w[1] + ")", () -> x.rule(w[0], w[1]));
        }
        due("acts", () -> x.count(10), 7);
    }

    private static void drawsThatCount() {
        DrawnBallots x = Feeder.made(EIGHT_TWO);
        x.draw(8);
        x.rule(0, 400);
        due("over behind 4, the others count no more", () -> x.count(5), 4);
        due("over", () -> x.count(8), 1);
        due("done behind", () -> x.race(0, 6), 4);
        due("its risk", () -> x.risk(0), QUARTERS[4]);
        none("drawn(4)", () -> x.drawn(4));
        none("riskAt(0, 5)", () -> x.riskAt(0, 5));
        due("times(4)", () -> x.times(4), 2);
        due("unlike ballots", () -> x.count(6), 3);
        due("draw", () -> x.draw(1), -1);
        x.rule(0, 100);
        due("the draws stay", () -> x.count(5), 8);
        due("draw", () -> x.draw(300), 1);
        x.rule(2, 3);
        x.rule(0, 200);
        due("most has no say in what was drawn", () -> x.count(5), 6);
        due("over", () -> x.count(8), 1);
        due("none by hand", () -> x.count(9), 0);
    }

    private static void undo() {
        DrawnBallots x = Feeder.made("race 2 compare;race 2 poll;ballots 8 0 0;ballots 2 1 1;limit 100;factor 120;seed 7;");
        x.draw(2);
        x.draw(3);
        x.paper(4, 0, 1);
        x.paper(4, 1, -1);
        x.way(1, 0);
        x.rule(0, 70);
        x.rule(1, 150);
        x.rule(2, 5);
        x.draw(1);
        due("eight acts, draw(1) was none", () -> x.count(10), 8);
        due("undo most", x::undo, 7);
        due("most", () -> x.count(4), 100);
        due("undo factor", x::undo, 6);
        due("factor", () -> x.count(3), 120);
        due("undo limit", x::undo, 5);
        due("limit", () -> x.count(2), 100);
        due("undo way", x::undo, 4);
        due("way", () -> x.race(1, 1), 1);
        due("undo paper", x::undo, 3);
        due("paper", () -> x.ballot(4, 1, 1), 0);
        due("the other paper", () -> x.ballot(4, 0, 1), 1);
        due("undo paper", x::undo, 2);
        due("mistake", () -> x.ballot(4, 0, 2), 0);
        due("risk", () -> x.risk(0), QUARTERS[5]);
        due("undo draws", x::undo, 1);
        due("draws", () -> x.count(5), 2);
        due("risk", () -> x.risk(0), QUARTERS[2]);
        due("undo draws", x::undo, 0);
        due("risk", () -> x.risk(0), QUARTERS[0]);
        due("none can", x::undo, -1);
        x.draw(1);
        due("drawn as before", () -> x.drawn(0), 4);
    }

    private static void undoOnlyTwelve() {
        DrawnBallots x = Feeder.made(EIGHT_TWO);
        for (int k = 0; k < 15; k++) {
            x.rule(2, 10 + k);
            int want = Math.min(12, k + 1);
            due("acts behind " + (k + 1), () -> x.count(10), want);
        }
        for (int k = 11; k >= 0; k--) {
            int want = k;
            due("undo, then left", x::undo, want);
        }
        due("the thirteenth can't", x::undo, -1);
        due("most of the third", () -> x.count(4), 12);
        x.rule(2, 99);
        Feeder.election(x, EIGHT_TWO);
        due("no acts behind an election", x::undo, -1);
    }

    private static void need() {
        DrawnBallots x = Feeder.made(EIGHT_TWO);
        due("need", () -> x.need(0, 0, 0), 9);
        // 900 / 700 once, then 3/4: 1285714286 * 0.75^9 = 96537455.
        due("need with a 1", () -> x.need(0, 1, 0), 10);
        // 900 / 200 once, then 3/4: 4.5 * 0.75^13 = 0.1069, 0.75^14 * 4.5 = 0.0802.
        due("need with a 2", () -> x.need(0, 0, 1), 15);
        illegal("need(0, -1, 0)", () -> x.need(0, -1, 0));
        illegal("need(0, 0, -1)", () -> x.need(0, 0, -1));
        illegal("need(0, 100, 0)", () -> x.need(0, 100, 0));
        illegal("need(0, 0, 100)", () -> x.need(0, 0, 100));
        noRace("need(.., 100, 0)", x, race -> x.need(race, 100, 0));
        // 99 twos reach 10 to the 13, and no more; 99 ones times 900 / 700 stay there: 3/4 of it 41 times is 75 million.
        due("need with all", () -> x.need(0, 99, 99), 99 + 99 + 41);
        DrawnBallots even = Feeder.made("race 2 compare;ballots 1 0;ballots 1 1;");
        due("no margin, none", () -> even.need(0, 0, 0), -1);
        even.way(0, 1);
        due("no margin, none by poll", () -> even.need(0, 0, 0), -1);
        DrawnBallots empty = Feeder.made("race 2 compare;race 2 poll;");
        due("no ballots", () -> empty.need(0, 0, 0), -1);
        due("no ballots", () -> empty.need(1, 0, 0), -1);
        DrawnBallots poll = Feeder.made(SIX_THREE_ONE);
        due("0.75^6 is 0.178", () -> poll.need(0, 0, 0), 6);
        due("a blank one", () -> poll.need(0, 1, 0), 7);
        // 1.5 * 0.75^8 = 0.1502, 1.5 * 0.75^7 = 0.2002.
        due("another one on paper", () -> poll.need(0, 0, 1), 9);
        DrawnBallots slow = Feeder.made("race 2 compare;ballots 99 0;ballots 98 1;ballots 2 off;limit 1;factor 300;most 300;");
        // 1 - 50 / (199 * 300) a draw: it would take more than 8000.
        due("more than 5000, none", () -> slow.need(0, 0, 0), -1);
        due("0.5 is reached", () -> { slow.rule(0, 500); return slow.need(0, 0, 0); }, 828);
    }

    private static void needAtItsEdges() {
        DrawnBallots x = Feeder.made("race 2 compare;ballots 5 0;factor 125;limit 360;");
        due("0.6 * 0.6 is the limit itself", () -> x.need(0, 0, 0), 2);
        due("and is done", () -> { x.draw(9); return x.race(0, 6); }, 2);
        String close = "race 2 compare;ballots 85 0;ballots 84 1;ballots 1 blank;limit 1;factor 213;";
        DrawnBallots most = Feeder.made(close);
        due("5000 draws", () -> most.need(0, 0, 0), 5000);
        due("5000 draws more", () -> most.more(0), 5000);
        due("one more with a 1", () -> most.need(0, 1, 0), -1);
        due("too many by a factor more", () -> { most.rule(1, 214); return most.need(0, 0, 0); }, -1);
        due("too many more", () -> most.more(0), -1);
        DrawnBallots above = Feeder.made("race 2 compare;ballots 91 0;ballots 90 1;ballots 1 off;limit 1;factor 199;");
        due("5001 are too many", () -> above.need(0, 0, 0), -1);
        due("5001 more are too many", () -> above.more(0), -1);
        due("by another factor", () -> { above.rule(1, 198); return above.need(0, 0, 0); }, 4976);
        // 2683 / 2783 of 10 to the 9 leaves 1: also that is rounded up.
        DrawnBallots rounded = Feeder.made("race 2 compare;ballots 6 0;ballots 4 1;ballots 1 blank;factor 253;");
        due("rounded up by the least", () -> rounded.next(0, 0), 964067554);
    }

    private static void bestFactor() {
        DrawnBallots x = Feeder.made(EIGHT_TWO);
        // The least factor makes the least of a draw without a mistake: (1010 - 300) / 1010, 7 draws; 104 also needs 7.
        due("best without mistakes", () -> x.bestFactor(0, 0, 0), 101);
        int best = x.bestFactor(0, 0, 2);
        int least = 5001;
        int found = -1;
        for (int factor = 101; factor <= 300; factor++) {
            x.rule(1, factor);
            int n = x.need(0, 0, 2);
            if (n != -1 && n < least) {
                least = n;
                found = factor;
            }
        }
        due("best with two of 2", () -> best, found);
        CHECK.due("that isn't the least one", found > 101, true);
        due("the factor stays", () -> x.count(3), 300);
        illegal("bestFactor(0, 100, 0)", () -> x.bestFactor(0, 100, 0));
        illegal("bestFactor(0, 0, -1)", () -> x.bestFactor(0, 0, -1));
        noRace("bestFactor(.., 100, 0)", x, race -> x.bestFactor(race, 100, 0));
        x.way(0, 1);
        due("by poll any is as good", () -> x.bestFactor(0, 3, 3), 101);
        DrawnBallots even = Feeder.made("race 2 compare;race 2 poll;ballots 1 0 0;ballots 1 1 1;");
        due("none by any", () -> even.bestFactor(0, 0, 0), -1);
        due("none by any", () -> even.bestFactor(1, 0, 0), -1);
        // Only some factors get below 0.001 within 5000 draws.
        DrawnBallots slow = Feeder.made("race 2 compare;ballots 99 0;ballots 98 1;ballots 2 off;limit 1;factor 300;");
        due("slow, but one does", () -> slow.bestFactor(0, 0, 0), 101);
        due("slow, none does", () -> slow.bestFactor(0, 0, 99), -1);
    }

    private static void more() {
        DrawnBallots x = Feeder.made(EIGHT_TWO);
        due("more", () -> x.more(0), 9);
        x.paper(4, 0, 1);
        x.draw(2);
        // 4500000000, 3375000000: 0.75^12 * 3.375 = 0.1069, so 13.
        due("more", () -> x.more(0), 13);
        x.paper(4, 0, 0);
        x.draw(300);
        due("it is done", () -> x.more(0), 0);
        noRace("more", x, x::more);
        DrawnBallots poll = Feeder.made(SIX_THREE_ONE);
        due("more by poll", () -> poll.more(0), 6);
        poll.draw(2);
        // 1125000000: 0.75^6 of it is 0.2002, so 7.
        due("more by poll", () -> poll.more(0), 7);
        DrawnBallots even = Feeder.made("race 2 compare;race 2 poll;ballots 1 0 0;ballots 1 1 1;");
        due("none", () -> even.more(0), -1);
        due("none", () -> even.more(1), -1);
        DrawnBallots empty = Feeder.made("race 2 compare;race 3 poll;");
        due("none without ballots", () -> empty.more(0), -1);
        due("none without ballots", () -> empty.more(1), -1);
    }

    private static void tries() {
        DrawnBallots x = Feeder.made(EIGHT_TWO);
        due("each is done", () -> x.tries(0, 1, 30, 0), 30);
        due("9 draws each", () -> x.tries(0, Integer.MAX_VALUE, 30, 1), 270);
        due("the winner is right", () -> x.tries(0, 1, 30, 2), 0);
        x.draw(3);
        due("anew", () -> x.tries(0, 7, 1, 1), 9);
        due("nothing changes", () -> x.count(5), 3);
        x.rule(2, 4);
        due("by most", () -> x.tries(0, 1, 30, 1), 120);
        due("none is done", () -> x.tries(0, 1, 30, 0), 0);
        x.rule(2, 100);
        x.rule(0, 500);
        x.paper(0, 0, 1);
        x.paper(1, 0, 1);
        x.paper(2, 0, 1);
        x.paper(3, 0, 1);
        int done = x.tries(0, 1, 30, 0);
        due("the winner is wrong", () -> x.tries(0, 1, 30, 2), done);
        CHECK.due("some are done all the same", done > 0 && done < 30, true);
        illegal("tries(.., 0, ..)", () -> x.tries(0, 1, 0, 0));
        illegal("tries(.., 31, ..)", () -> x.tries(0, 1, 31, 0));
        none("tries(.., 3)", () -> x.tries(0, 1, 0, 3));
        none("tries(.., -1)", () -> x.tries(0, 1, 31, -1));
        noRace("tries", x, race -> x.tries(race, 1, 0, 0));
        DrawnBallots empty = Feeder.made("race 2 poll;");
        due("no ballots, no draws", () -> empty.tries(0, 1, 30, 1), 0);
        due("no ballots, none done", () -> empty.tries(0, 1, 30, 0), 0);
    }

    private static void quickest() {
        DrawnBallots x = Feeder.made(EIGHT_TWO);
        due("all with 9, the first", () -> x.quickest(5, 30), 0);
        // Ballot 4 makes it slower; seed 7 draws it first (4 6 8 4), -3 never in its first nine draws.
        x.paper(4, 0, 1);
        due("the one that doesn't draw 4", () -> x.quickest(-3, 1), 0);
        due("draws of it", () -> x.tries(0, -3, 1, 1), 9);
        int fewest = 1000;
        int found = -1;
        for (int k = 0; k < 30; k++) {
            int draws = x.tries(0, -20 + k, 1, 1);
            if (x.tries(0, -20 + k, 1, 0) == 1 && draws < fewest) {
                fewest = draws;
                found = k;
            }
        }
        int want = found;
        due("the fewest of 30", () -> x.quickest(-20, 30), want);
        illegal("quickest(0, 0)", () -> x.quickest(0, 0));
        illegal("quickest(0, 31)", () -> x.quickest(0, 31));
        x.rule(2, 8);
        due("none is over", () -> x.quickest(5, 30), -1);
        due("without races", () -> new DrawnBallots().quickest(9, 3), 0);
    }

    private static void ask() {
        DrawnBallots x = Feeder.made("race 3 compare;race 2 poll;ballots 4 0 1;ballots 3 1 off;ballots 3 blank 0;paper 2 0 1;paper 8 1 1;limit 1;seed 7;");
        x.draw(7);
        // 4 6 8 4 1 5 4 were drawn.
        Object[][] rows = {
            {"many 1=1", 10}, {"many 1=2", 0}, {"many number<4", 4}, {"many 4>number", 4}, {"first number>4", 5},
            {"first times=3", 4}, {"drawn times=3", 3}, {"drawn number>0", 7}, {"many times=0", 5},
            {"many record 0=1", 3}, {"many paper 0 = 1", 4}, {"first paper 0=1", 2}, {"many mistake 0=2", 1},
            {"many record 1=off", 3}, {"many off=record 1", 3}, {"many record 0<0", 3}, {"many record 0=blank", 3},
            {"many paper 1=1", 5}, {"many mistake 1<0", 1}, {"many mistake 1>0", 0}, {"first number=10", -1},
            {"many not number<4", 6}, {"many number=1 or number=2 and number=3", 1},
            {"many {number=1 or number=2} and number<2", 1}, {"many not number=1 and number<3", 2},
            {"many not {number=1 and number<3}", 9}, {"many number<2 and number<1 or number>8", 2},
            {"drawn not not number=4", 3}, {"many off<blank", 10}, {"many 9999>007", 10},
            {"many{{{{{{number=1}}}}}}", 1}, {"many not{not{not{number=1}}}", 9},
            {"many{{{{{{1=1}}}}}}and{{{{{{1=1}}}}}}and not not not not not not 1=1", 10}};
        for (Object[] row : rows) {
            due((String) row[0], () -> Feeder.ask(x, (String) row[0]), (Integer) row[1]);
            due("fault of " + row[0], x::fault, -1);
        }
        Feeder.feed(x, "many 1=1");
        illegal("ask(-1)", () -> x.ask(-1));
        illegal("ask(21)", () -> x.ask(21));
        due("the tape stays", () -> x.count(11), 20);
        due("ask(8)", () -> x.ask(8), 10);
        due("the tape is empty", () -> x.count(11), 0);
        String long200 = "many 1=1" + " ".repeat(192);
        due("200 bytes", () -> Feeder.ask(x, long200), 10);
        Feeder.feed(x, long200 + " ");
        illegal("201 bytes", () -> x.ask(201));
        due("ask(0)", () -> x.ask(0), -1000000001);
        due("nothing else changed", () -> x.count(5), 7);
        due("no ballots: many", () -> Feeder.ask(new DrawnBallots(), "many 1=1"), 0);
        due("no ballots: first", () -> Feeder.ask(new DrawnBallots(), "first 1=1"), -1);
        due("no races", () -> Feeder.ask(new DrawnBallots(), "first paper 0=1"), -1000000002);
    }

    private static void imageAndBack() {
        DrawnBallots x = Feeder.made(EIGHT_TWO);
        due("nothing was kept", () -> x.back() ? 1 : 0, 0);
        x.draw(3);
        x.paper(9, 0, -2);
        x.say();
        Feeder.ask(x, "many 1=");
        x.image();
        due("acts stay behind image", () -> x.count(10), 2);
        x.draw(2);
        x.way(0, 1);
        x.rule(2, 11);
        x.paper(9, 0, 0);
        Feeder.election(x, "race 4 poll;ballots 9 3;");
        x.draw(1);
        x.say();
        x.feed(1, 2, 3, 4, 5);
        due("back", () -> x.back() ? 1 : 0, 1);
        long[] counts = {1, 10, 100, 120, 100, 3, 3, 0, 0, 0, 0, 20};
        for (int what = 0; what < counts.length; what++) {
            int w = what;
            due("back: count(" + w + ")", () -> x.count(w), counts[w]);
        }
        due("back: paper", () -> x.ballot(9, 0, 1), -2);
        due("back: candidates", () -> x.race(0, 0), 2);
        due("back: risk", () -> x.risk(0), QUARTERS[3]);
        due("back: drawn", () -> x.drawn(2), 8);
        due("back: no acts", x::undo, -1);
        due("behind back: fault of the latest election", x::fault, -1);
        due("behind back: the latest said", () -> x.said(0), 'p');
        x.draw(1);
        due("the image stays", () -> x.back() ? 1 : 0, 1);
        due("the image stays", () -> x.count(5), 3);
        x.draw(1);
        x.image();
        x.draw(1);
        due("a later image instead", () -> x.back() ? 1 : 0, 1);
        due("a later image instead", () -> x.count(5), 4);
        x.rule(0, 400);
        x.image();
        x.back();
        x.rule(0, 100);
        due("draws that don't count are kept, too", () -> x.count(5), 4);
        whatNoImageKeeps();
    }

    /** fault() and said() tell of the latest calls, whatever back() brings back. */
    private static void whatNoImageKeeps() {
        DrawnBallots x = Feeder.made(EIGHT_TWO);
        Feeder.ask(x, "many 1=");
        due("said ahead of image", x::say, 8);
        x.image();
        x.draw(1);
        Feeder.ask(x, "many");
        CHECK.due("said behind image", Feeder.said(x), "ca:750?");
        x.back();
        due("fault of ask behind image", x::fault, 4);
        due("said behind image stays", () -> x.said(3), '7');
        due("its length, too", () -> x.said(7), -1);
        Feeder.ask(x, "many 1=1");
        x.back();
        due("an ask without a fault behind image", x::fault, -1);
        x.image();
        Feeder.election(x, "race 2 pall;");
        illegal("an illegal ask behind a fault", () -> x.ask(1));
        x.back();
        due("fault of election behind image", x::fault, 7);
        DrawnBallots fresh = new DrawnBallots();
        fresh.image();
        Feeder.election(fresh, "race 2 poll;");
        fresh.say();
        fresh.back();
        due("no races again", () -> fresh.count(0), 0);
        due("said of the race that was", () -> fresh.said(0), 'p');
    }

    private static void edgesOfRisk() {
        DrawnBallots x = Feeder.made("race 2 compare;ballots 4 0;factor 101;paper 0 0 1;paper 1 0 1;paper 2 0 1;paper 3 0 1;most 300;");
        x.draw(3);
        // (404 - 200) / (4 * 1) = 51 a draw: 51, 2601, then 10 to the 13.
        due("51", () -> x.riskAt(0, 1), 51000000000L);
        due("2601", () -> x.riskAt(0, 2), 2601000000000L);
        due("the greatest", () -> x.riskAt(0, 3), TOP);
        x.draw(300);
        due("the greatest", () -> x.risk(0), TOP);
        DrawnBallots less = Feeder.made("race 2 compare;ballots 1 0;ballots 1 1;paper 1 0 0;factor 101;");
        // No margin: only a mistake of -2 makes it less, 202 / (2 * 201) of itself.
        less.draw(1);
        due("of 0 first", () -> less.risk(0), less.drawn(0) == 0 ? 1000000000 : 502487563);
        due("over all the same", () -> less.draw(300) > 0 && less.count(8) == 1 ? 1 : 0, 1);
    }
}
