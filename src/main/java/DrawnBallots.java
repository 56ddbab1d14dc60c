import java.util.Arrays;
import java.util.NoSuchElementException;

/**
 * Ballots drawn: a count of several races that is audited by ballots drawn from a seed.
 * The words in capitals are those of the document's 'Terms'.
 */
public final class DrawnBallots {
    public static final int NONE = -1;

    private static final int MOST_RACES = 3;
    private static final int MOST_CANDIDATES = 4;
    private static final int MOST_BALLOTS = 200;
    private static final int MOST_DRAWS = 300;
    private static final int MOST_TAPE = 600;
    private static final int MOST_QUESTION = 200;
    private static final int MOST_OPEN = 6;
    private static final int MOST_ACTS = 12;
    private static final int MOST_RECKONED = 5000;
    private static final int MOST_SUPPOSED = 99;
    private static final int MOST_TRIES = 30;
    private static final int LEAST_FACTOR = 101;
    private static final int MOST_FACTOR = 300;
    private static final int MOST_LIMIT = 500;

    private static final int COMPARE = 0;
    private static final int POLL = 1;
    private static final int BLANK = -1;
    private static final int OFF = -2;

    /** No NUMBER may be as great, so greater ones count as this one. */
    private static final int ANY = 100000000;

    private static final int LIMIT = 0;
    private static final int FACTOR = 1;
    private static final int MOST = 2;

    private static final long WHOLE = 1000000000L;
    private static final long THOUSANDTH = 1000000L;
    private static final long GREATEST = 10000000000000L;

    private final byte[] tape = new byte[MOST_TAPE];
    private int taped = 0;
    private int faultPlace = NONE;
    private final Speech speech = new Speech();

    private Election now = new Election();
    private Election spare = new Election();
    private final Audit audit = new Audit();
    private final Audit trial = new Audit();
    private final Acts acts = new Acts();
    private final Reader reader = new Reader();
    private final Question question = new Question();

    private boolean isKept = false;
    private final Election kept = new Election();

    public DrawnBallots() {
    }

    public int feed(int a, int b, int c, int d, int e) {
        if (taped + 20 > MOST_TAPE) {
            return NONE;
        }
        putOnTape(a);
        putOnTape(b);
        putOnTape(c);
        putOnTape(d);
        putOnTape(e);
        return taped;
    }

    private void putOnTape(int number) {
        for (int shift = 24; shift >= 0 && taped < MOST_TAPE; shift -= 8) {
            tape[taped] = (byte) (number >>> shift);
            taped++;
        }
    }

    public int election(int n) throws IllegalArgumentException {
        if (n < 0 || n > taped) {
            throw new IllegalArgumentException("the tape has not so many bytes");
        }
        takeTape(n);
        // A text with a FAULT must leave the election as it is, so it is told to the spare one.
        ElectionText.tell(reader, spare);
        faultPlace = reader.place;
        if (reader.wrong != 0) {
            return -10 - reader.wrong;
        }
        Election told = spare;
        spare = now;
        now = told;
        acts.forget();
        replay();
        return now.ballots;
    }

    private void takeTape(int n) {
        reader.open(tape, n);
        taped = 0;
    }

    public int fault() {
        return faultPlace;
    }

    public int count(int what) throws NoSuchElementException {
        switch (what) {
            case 0: return now.races;
            case 1: return now.ballots;
            case 2: return now.rules[LIMIT];
            case 3: return now.rules[FACTOR];
            case 4: return now.rules[MOST];
            case 5: return audit.counted;
            case 6: return audit.unlike;
            case 7: return now.races - audit.pending;
            case 8: return audit.isOver() ? 1 : 0;
            case 9: return audit.isByHand(now) ? 1 : 0;
            case 10: return acts.size;
            case 11: return taped;
            default: throw new NoSuchElementException("no such count");
        }
    }

    public int race(int race, int what) throws NoSuchElementException {
        Contest contest = contestOf(race);
        switch (what) {
            case 0: return contest.candidates;
            case 1: return contest.method;
            case 2: return contest.winner;
            case 3: return contest.rightOne;
            case 4: return contest.margin;
            case 5: return audit.isDone(race) ? 1 : 0;
            case 6: return audit.doneBehind[race];
            case 7: return wins(race, contest);
            default: throw new NoSuchElementException("nothing such of a race");
        }
    }

    private int wins(int race, Contest contest) {
        if (audit.isDone(race)) {
            return contest.winner;
        }
        return audit.isByHand(now) ? contest.rightOne : NONE;
    }

    private Contest contestOf(int race) throws NoSuchElementException {
        if (race < 0 || race >= now.races || race >= MOST_RACES) {
            throw new NoSuchElementException("no such race");
        }
        return now.contests[race];
    }

    private void seekCandidate(Contest contest, int candidate) throws NoSuchElementException {
        if (candidate < 0 || candidate >= contest.candidates || candidate >= MOST_CANDIDATES) {
            throw new NoSuchElementException("no such candidate");
        }
    }

    private void seekBallot(int ballot) throws NoSuchElementException {
        if (ballot < 0 || ballot >= now.ballots || ballot >= MOST_BALLOTS) {
            throw new NoSuchElementException("no such ballot");
        }
    }

    public long risk(int race) throws NoSuchElementException {
        contestOf(race);
        return audit.latestRisk(race);
    }

    public long riskOf(int race, int candidate) throws NoSuchElementException {
        Contest contest = contestOf(race);
        seekCandidate(contest, candidate);
        if (candidate == contest.winner) {
            return 0;
        }
        return contest.method == COMPARE ? audit.latestRisk(race) : audit.own[race][candidate];
    }

    public int worst(int race) throws NoSuchElementException {
        contestOf(race);
        int found = NONE;
        long greatest = 0;
        for (int ballot = 0; ballot < now.ballots && ballot < MOST_BALLOTS; ballot++) {
            long then = audit.riskWith(now, race, ballot);
            if (then > greatest) {
                greatest = then;
                found = ballot;
            }
        }
        return found;
    }

    public long chance(int race, int n) throws NoSuchElementException, IllegalArgumentException {
        Contest contest = contestOf(race);
        if (n < 0 || n > MOST_DRAWS) {
            throw new IllegalArgumentException("no such number of draws");
        }
        int without = now.ballots - contest.mistaken(now.ballots);
        long chance = WHOLE;
        for (int k = 0; k < n; k++) {
            chance = rarer(chance, without);
        }
        return chance;
    }

    public int enough(int race) throws NoSuchElementException {
        Contest contest = contestOf(race);
        int without = now.ballots - contest.mistaken(now.ballots);
        long goal = now.goal();
        long chance = WHOLE;
        for (int k = 1; k <= MOST_RECKONED; k++) {
            long then = rarer(chance, without);
            if (then <= goal) {
                return k;
            }
            if (then == chance) {
                return NONE;
            }
            chance = then;
        }
        return NONE;
    }

    /** CHANCE with one draw more. */
    private long rarer(long chance, int without) {
        int of = now.ballots;
        return of <= 0 ? chance : (chance * without + of - 1) / of;
    }

    public int flips(int race, int what) throws NoSuchElementException {
        Contest contest = contestOf(race);
        if (what < 0 || what > 1) {
            throw new NoSuchElementException("nothing such of flips");
        }
        int fewest = NONE;
        int found = NONE;
        for (int k = 0; k < contest.candidates && k < MOST_CANDIDATES; k++) {
            if (k == contest.rightOne) {
                continue;
            }
            int flips = contest.flipsFor(k);
            if (found == NONE || flips < fewest) {
                fewest = flips;
                found = k;
            }
        }
        return what == 0 ? fewest : found;
    }

    public int say() {
        speech.fallSilent();
        for (int race = 0; race < now.races && race < MOST_RACES; race++) {
            if (race > 0) {
                speech.put(',');
            }
            sayRace(race);
        }
        if (audit.isByHand(now)) {
            speech.put(';');
        } else if (!audit.isOver()) {
            speech.put('?');
        }
        return speech.length;
    }

    private void sayRace(int race) {
        Contest contest = now.contests[race];
        speech.put(contest.method == COMPARE ? 'c' : 'p');
        speech.put('a' + contest.winner);
        if (audit.isDone(race)) {
            speech.put('!');
            speech.putNumber(audit.doneBehind[race]);
        } else {
            speech.put(':');
            speech.putNumber(audit.latestRisk(race) / THOUSANDTH);
        }
    }

    public int said(int i) {
        return i < 0 || i >= speech.length ? NONE : speech.bytes[i];
    }

    public int votes(int race, int candidate, boolean hand) throws NoSuchElementException {
        Contest contest = contestOf(race);
        seekCandidate(contest, candidate);
        return hand ? contest.byHand[candidate] : contest.tallies[candidate];
    }

    public int ballot(int ballot, int race, int what) throws NoSuchElementException {
        Contest contest = contestOf(race);
        seekBallot(ballot);
        switch (what) {
            case 0: return contest.recorded[ballot];
            case 1: return contest.shown[ballot];
            case 2: return contest.slips[ballot];
            default: throw new NoSuchElementException("nothing such of a ballot");
        }
    }

    public int drawn(int k) throws NoSuchElementException {
        if (k < 0 || k >= audit.counted || k >= MOST_DRAWS) {
            throw new NoSuchElementException("no such draw");
        }
        return audit.drew[k];
    }

    public int times(int ballot) throws NoSuchElementException {
        seekBallot(ballot);
        return audit.often[ballot];
    }

    public int mistakes(int race, int mistake) throws NoSuchElementException {
        Contest contest = contestOf(race);
        if (mistake < -2 || mistake > 2) {
            throw new NoSuchElementException("no such mistake");
        }
        int found = 0;
        for (int k = 0; k < audit.counted && k < MOST_DRAWS; k++) {
            int ballot = audit.drew[k];
            if (ballot >= 0 && ballot < MOST_BALLOTS && contest.slips[ballot] == mistake) {
                found++;
            }
        }
        return found;
    }

    public long riskAt(int race, int k) throws NoSuchElementException {
        contestOf(race);
        if (k < 0 || k > audit.counted || k > MOST_DRAWS) {
            throw new NoSuchElementException("not so many draws");
        }
        return audit.risks[race][k];
    }

    public int draw(int n) throws IllegalArgumentException {
        if (n < 1 || n > MOST_DRAWS) {
            throw new IllegalArgumentException("no such number of draws");
        }
        int before = audit.counted;
        audit.goOn(now, Math.min(before + n, now.rules[MOST]));
        int made = audit.counted - before;
        if (made == 0) {
            return NONE;
        }
        acts.add(Acts.DRAW, 0, 0, now.drawn);
        now.drawn = audit.counted;
        return made;
    }

    public long next(int race, int ballot) throws NoSuchElementException {
        contestOf(race);
        seekBallot(ballot);
        return audit.riskWith(now, race, ballot);
    }

    public int paper(int ballot, int race, int choice) throws NoSuchElementException, IllegalArgumentException {
        Contest contest = contestOf(race);
        seekBallot(ballot);
        if (choice < OFF || choice >= contest.candidates) {
            throw new IllegalArgumentException("no such choice");
        }
        int was = contest.shown[ballot];
        acts.add(Acts.PAPER, race, ballot, was);
        now.show(race, ballot, choice);
        replay();
        return was;
    }

    public int way(int race, int way) throws NoSuchElementException, IllegalArgumentException {
        Contest contest = contestOf(race);
        if (way != COMPARE && way != POLL) {
            throw new IllegalArgumentException("no such way");
        }
        int was = contest.method;
        acts.add(Acts.WAY, race, 0, was);
        contest.method = way;
        replay();
        return was;
    }

    public int rule(int what, int v) throws NoSuchElementException, IllegalArgumentException {
        if (what < LIMIT || what > MOST) {
            throw new NoSuchElementException("no such rule");
        }
        if (v < leastOf(what) || v > mostOf(what)) {
            throw new IllegalArgumentException("the rule can't be so");
        }
        int was = now.rules[what];
        acts.add(Acts.RULE, what, 0, was);
        now.rules[what] = v;
        replay();
        return was;
    }

    private static int leastOf(int rule) {
        return rule == FACTOR ? LEAST_FACTOR : 1;
    }

    private static int mostOf(int rule) {
        if (rule == LIMIT) {
            return MOST_LIMIT;
        }
        return rule == FACTOR ? MOST_FACTOR : MOST_DRAWS;
    }

    /** Makes what THE AUDIT knows anew by all draws so far; MOST has no say in it. */
    private void replay() {
        audit.begin(now, now.seed);
        audit.goOn(now, now.drawn);
    }

    public int undo() {
        if (!acts.takeLatest()) {
            return NONE;
        }
        int was = acts.was;
        switch (acts.kind) {
            case Acts.DRAW:
                now.drawn = was;
                break;
            case Acts.PAPER:
                now.show(acts.of, acts.ballot, was);
                break;
            case Acts.WAY:
                now.setMethod(acts.of, was);
                break;
            default:
                now.setRule(acts.of, was);
                break;
        }
        replay();
        return acts.size;
    }

    public int need(int race, int ones, int twos) throws NoSuchElementException, IllegalArgumentException {
        Contest contest = contestOf(race);
        seekSupposed(ones, twos);
        return needed(contest, now.rules[FACTOR], ones, twos, MOST_RECKONED);
    }

    private static void seekSupposed(int ones, int twos) throws IllegalArgumentException {
        if (ones < 0 || ones > MOST_SUPPOSED || twos < 0 || twos > MOST_SUPPOSED) {
            throw new IllegalArgumentException("no such number of mistakes");
        }
    }

    public int bestFactor(int race, int ones, int twos) throws NoSuchElementException, IllegalArgumentException {
        Contest contest = contestOf(race);
        seekSupposed(ones, twos);
        // FACTOR has no part in POLL: the least one is then as good as any other.
        int last = contest.method == COMPARE ? MOST_FACTOR : LEAST_FACTOR;
        int found = NONE;
        int room = MOST_RECKONED;
        for (int factor = LEAST_FACTOR; factor <= last; factor++) {
            int draws = needed(contest, factor, ones, twos, room);
            if (draws != NONE) {
                found = factor;
                room = draws - 1;
            }
        }
        return found;
    }

    /** NEED of a race by a FACTOR; NONE where it is more than room. */
    private int needed(Contest contest, int factor, int ones, int twos, int room) {
        int rival = contest.leading(contest.tallies, contest.winner);
        int cleanRoom = room - ones - twos;
        int most = 0;
        for (int k = 0; k < contest.candidates && k < MOST_CANDIDATES && most != NONE; k++) {
            if (k == contest.winner) {
                continue;
            }
            long risk = supposedRisk(contest, k, k == rival, factor, ones, twos);
            int clean = cleanDraws(contest, k, factor, risk, cleanRoom);
            most = clean == NONE ? NONE : Math.max(most, clean);
            if (contest.method == COMPARE) {
                break;
            }
        }
        return most == NONE ? NONE : ones + twos + most;
    }

    /** The risk against a candidate (by COMPARE that of the race) behind supposed MISTAKES. */
    private long supposedRisk(Contest contest, int candidate, boolean isRival, int factor, int ones, int twos) {
        if (contest.method == POLL) {
            long both = contest.votesOfBoth(candidate);
            return isRival ? repeated(WHOLE, both, 2L * contest.tallies[candidate], twos) : WHOLE;
        }
        long times = contest.comparedTimes(now.ballots, factor);
        long risk = repeated(WHOLE, times, Contest.comparedBy(now.ballots, factor, 2), twos);
        return repeated(risk, times, Contest.comparedBy(now.ballots, factor, 1), ones);
    }

    /** How many draws without a MISTAKE bring a risk down to the LIMIT; NONE: more than room. */
    private int cleanDraws(Contest contest, int candidate, int factor, long risk, int room) {
        if (contest.method == POLL) {
            long both = contest.votesOfBoth(candidate);
            return drawsDown(risk, both, 2L * contest.tallies[contest.winner], now.goal(), room);
        }
        long times = contest.comparedTimes(now.ballots, factor);
        return drawsDown(risk, times, Contest.comparedBy(now.ballots, factor, 0), now.goal(), room);
    }

    public int more(int race) throws NoSuchElementException {
        Contest contest = contestOf(race);
        if (audit.isDone(race)) {
            return 0;
        }
        int factor = now.rules[FACTOR];
        if (contest.method == COMPARE) {
            return cleanDraws(contest, 0, factor, audit.latestRisk(race), MOST_RECKONED);
        }
        int most = 0;
        for (int k = 0; k < contest.candidates && k < MOST_CANDIDATES && most != NONE; k++) {
            if (k != contest.winner) {
                int clean = cleanDraws(contest, k, factor, audit.own[race][k], MOST_RECKONED);
                most = clean == NONE ? NONE : Math.max(most, clean);
            }
        }
        return most;
    }

    public int tries(int race, int seed, int n, int what) throws NoSuchElementException, IllegalArgumentException {
        Contest contest = contestOf(race);
        if (what < 0 || what > 2) {
            throw new NoSuchElementException("nothing such of tries");
        }
        seekTries(n);
        int sum = 0;
        for (int k = 0; k < n; k++) {
            trial.begin(now, seed + k);
            trial.goOn(now, now.rules[MOST]);
            if (what == 1) {
                sum += trial.counted;
            } else if (trial.isDone(race) && (what == 0 || contest.winner != contest.rightOne)) {
                sum++;
            }
        }
        return sum;
    }

    private static void seekTries(int n) throws IllegalArgumentException {
        if (n < 1 || n > MOST_TRIES) {
            throw new IllegalArgumentException("no such number of audits");
        }
    }

    public int quickest(int seed, int n) throws IllegalArgumentException {
        seekTries(n);
        int found = NONE;
        int fewest = 0;
        for (int k = 0; k < n; k++) {
            trial.begin(now, seed + k);
            trial.goOn(now, now.rules[MOST]);
            if (trial.isOver() && (found == NONE || trial.counted < fewest)) {
                found = k;
                fewest = trial.counted;
            }
        }
        return found;
    }

    public int ask(int n) throws IllegalArgumentException {
        if (n < 0 || n > taped || n > MOST_QUESTION) {
            throw new IllegalArgumentException("no question has so many bytes, or the tape has not");
        }
        takeTape(n);
        question.hear(reader, now.races);
        faultPlace = reader.place;
        if (reader.wrong != 0) {
            return -1000000000 - reader.wrong;
        }
        return question.answer(now, audit);
    }

    // The latest FAULT and what was SAID tell of the latest such calls, so no image() keeps them.
    public void image() {
        isKept = true;
        kept.copy(now);
    }

    public boolean back() {
        if (!isKept) {
            return false;
        }
        now.copy(kept);
        acts.forget();
        replay();
        return true;
    }

    /** A risk times one number by another, rounded up, within what a risk can be. */
    private static long scaled(long risk, long times, long by) {
        if (by <= 0) {
            return GREATEST;
        }
        long then = (risk * times + by - 1) / by;
        return Math.max(1, Math.min(GREATEST, then));
    }

    /** A risk scaled so many times by the same. */
    private static long repeated(long risk, long times, long by, int n) {
        long then = risk;
        for (int k = 0; k < n; k++) {
            long before = then;
            then = scaled(before, times, by);
            if (then == before) {
                break;
            }
        }
        return then;
    }

    /** How many times a risk must be scaled to be a goal or less; NONE: more than room. */
    private static int drawsDown(long risk, long times, long by, long goal, int room) {
        if (risk <= goal) {
            return 0;
        }
        if (by <= 0 || times >= by || isOutOfReach(risk, times, by, goal, room)) {
            return NONE;
        }
        long then = risk;
        for (int k = 1; k <= room; k++) {
            then = scaled(then, times, by);
            if (then <= goal) {
                return k;
            }
        }
        return NONE;
    }

    /**
     * Whether a risk that is not even rounded up stays above the goal: bestFactor() would else
     * go through up to a million draws for nothing. The margin is far wider than what the
     * doubles can be off, so a true answer is sure; where it's close, the draws are gone through.
     */
    private static boolean isOutOfReach(long risk, long times, long by, long goal, int room) {
        double left = (double) risk;
        double share = by <= 0 ? 1.0 : (double) times / (double) by;
        for (int bits = room; bits > 0; bits >>= 1) {
            if ((bits & 1) != 0) {
                left *= share;
            }
            share *= share;
        }
        return left > (double) goal * 1.000001;
    }

    /** A RACE: what is recorded, what the papers show, and what follows from both. */
    private static final class Contest {
        final int[] recorded = new int[MOST_BALLOTS];
        final int[] shown = new int[MOST_BALLOTS];
        final int[] slips = new int[MOST_BALLOTS];
        final int[] tallies = new int[MOST_CANDIDATES];
        final int[] byHand = new int[MOST_CANDIDATES];
        int candidates = 0;
        int method = COMPARE;
        int winner = 0;
        int rightOne = 0;
        int margin = 0;

        void copy(Contest other, int ballots) {
            System.arraycopy(other.recorded, 0, recorded, 0, MOST_BALLOTS);
            System.arraycopy(other.shown, 0, shown, 0, MOST_BALLOTS);
            candidates = other.candidates;
            method = other.method;
            reckon(ballots);
        }

        /** Makes all that follows from what is recorded and shown. */
        void reckon(int ballots) {
            tally(recorded, tallies, ballots);
            tally(shown, byHand, ballots);
            winner = leading(tallies, NONE);
            rightOne = leading(byHand, NONE);
            margin = tallies[winner] - tallies[leading(tallies, winner)];
            for (int ballot = 0; ballot < ballots && ballot < MOST_BALLOTS; ballot++) {
                slips[ballot] = slip(recorded[ballot], shown[ballot]);
            }
        }

        private void tally(int[] choices, int[] sums, int ballots) {
            Arrays.fill(sums, 0);
            for (int ballot = 0; ballot < ballots && ballot < choices.length; ballot++) {
                int choice = choices[ballot];
                if (choice >= 0 && choice < sums.length) {
                    sums[choice]++;
                }
            }
        }

        /** The candidate but one (NONE: but none) with the greatest sum, of several the least. */
        int leading(int[] sums, int but) {
            int found = but == 0 ? 1 : 0;
            for (int k = found + 1; k < candidates && k < sums.length; k++) {
                if (k != but && sums[k] > sums[found]) {
                    found = k;
                }
            }
            return found;
        }

        /** The MISTAKE of a ballot. */
        private int slip(int record, int show) {
            int greatest = -2;
            for (int other = 0; other < candidates; other++) {
                if (other != winner) {
                    greatest = Math.max(greatest, lead(record, other) - lead(show, other));
                }
            }
            return greatest;
        }

        private int lead(int choice, int other) {
            if (choice == winner) {
                return 1;
            }
            return choice == other ? -1 : 0;
        }

        /** How many ballots have a MISTAKE above 0. */
        int mistaken(int ballots) {
            int found = 0;
            for (int ballot = 0; ballot < ballots && ballot < MOST_BALLOTS; ballot++) {
                if (slips[ballot] > 0) {
                    found++;
                }
            }
            return found;
        }

        /** How many papers changed from the RIGHT one to a candidate put this one ahead. */
        int flipsFor(int candidate) {
            int behind = byHand[rightOne] - byHand[candidate];
            return candidate < rightOne ? (behind + 1) / 2 : behind / 2 + 1;
        }

        long comparedTimes(int ballots, int factor) {
            return (long) factor * ballots - 50L * margin;
        }

        static long comparedBy(int ballots, int factor, int slip) {
            return (long) ballots * (factor - 50 * slip);
        }

        long votesOfBoth(int candidate) {
            return (long) tallies[winner] + tallies[candidate];
        }

        /** A candidate's own risk by POLL behind a ballot on whose paper the choice is. */
        long polled(long own, int candidate, int choice) {
            if (choice == winner || choice == candidate) {
                return scaled(own, votesOfBoth(candidate), 2L * tallies[choice]);
            }
            return own;
        }
    }

    /** AN ELECTION: its races and rules, and how many draws there were so far. */
    private static final class Election {
        final Contest[] contests = new Contest[MOST_RACES];
        final int[] rules = new int[3];
        int races = 0;
        int ballots = 0;
        int seed = 0;
        int drawn = 0;

        Election() {
            for (int race = 0; race < MOST_RACES; race++) {
                contests[race] = new Contest();
            }
            empty();
        }

        void empty() {
            races = 0;
            ballots = 0;
            seed = 0;
            drawn = 0;
            rules[LIMIT] = 50;
            rules[FACTOR] = 110;
            rules[MOST] = 100;
        }

        void copy(Election other) {
            races = other.races;
            ballots = other.ballots;
            seed = other.seed;
            drawn = other.drawn;
            System.arraycopy(other.rules, 0, rules, 0, rules.length);
            for (int race = 0; race < races && race < MOST_RACES; race++) {
                contests[race].copy(other.contests[race], ballots);
            }
        }

        void reckonAll() {
            for (int race = 0; race < races && race < MOST_RACES; race++) {
                contests[race].reckon(ballots);
            }
        }

        /** The RISK at which, or below, a race is DONE. */
        long goal() {
            return rules[LIMIT] * THOUSANDTH;
        }

        void show(int race, int ballot, int choice) {
            if (race >= 0 && race < races && ballot >= 0 && ballot < ballots) {
                contests[race].shown[ballot] = choice;
                contests[race].reckon(ballots);
            }
        }

        void setMethod(int race, int method) {
            if (race >= 0 && race < races) {
                contests[race].method = method;
            }
        }

        void setRule(int what, int v) {
            if (what >= 0 && what < rules.length) {
                rules[what] = v;
            }
        }
    }

    /** THE AUDIT: the draws that count and what they tell of each race. */
    private static final class Audit {
        final long[][] own = new long[MOST_RACES][MOST_CANDIDATES];
        final long[][] risks = new long[MOST_RACES][MOST_DRAWS + 1];
        final int[] doneBehind = new int[MOST_RACES];
        final int[] drew = new int[MOST_DRAWS];
        final int[] often = new int[MOST_BALLOTS];
        int counted = 0;
        int unlike = 0;
        int pending = 0;
        private int x = 0;

        /** Begins anew, with nothing drawn. */
        void begin(Election of, int seed) {
            Arrays.fill(often, 0);
            counted = 0;
            unlike = 0;
            pending = of.races;
            x = seed;
            for (int race = 0; race < MOST_RACES; race++) {
                Arrays.fill(own[race], WHOLE);
                risks[race][0] = WHOLE;
                doneBehind[race] = NONE;
            }
        }

        /** Draws till it is OVER or so many are drawn in all. */
        void goOn(Election of, int most) {
            for (int k = counted; k < most && k < MOST_DRAWS && !isOver() && of.ballots > 0; k++) {
                drawOne(of);
            }
        }

        boolean isOver() {
            return pending == 0;
        }

        boolean isByHand(Election of) {
            return !isOver() && counted >= of.rules[MOST];
        }

        boolean isDone(int race) {
            return doneBehind[race] != NONE;
        }

        long latestRisk(int race) {
            return risks[race][counted];
        }

        private void drawOne(Election of) {
            if (of.ballots <= 0 || of.ballots > MOST_BALLOTS || counted >= MOST_DRAWS) {
                return;
            }
            x = x * 1103515245 + 12345;
            int ballot = ((x >>> 16) & 32767) % of.ballots;
            if (often[ballot] == 0) {
                unlike++;
            }
            often[ballot]++;
            drew[counted] = ballot;
            for (int race = 0; race < of.races && race < MOST_RACES; race++) {
                // What stays to be known is written behind the draw that is only counted below.
                risks[race][counted + 1] = isDone(race) ? latestRisk(race) : stepped(of, race, ballot, true);
            }
            counted++;
            closeRaces(of);
        }

        private void closeRaces(Election of) {
            for (int race = 0; race < of.races && race < MOST_RACES; race++) {
                if (!isDone(race) && latestRisk(race) <= of.goal()) {
                    doneBehind[race] = counted;
                    pending--;
                }
            }
        }

        /** RISK of a race, were a ballot drawn next. */
        long riskWith(Election of, int race, int ballot) {
            return isDone(race) ? latestRisk(race) : stepped(of, race, ballot, false);
        }

        /** RISK of a race that isn't DONE with one ballot more; the candidates' own risks are kept or not. */
        private long stepped(Election of, int race, int ballot, boolean keep) {
            Contest contest = of.contests[race];
            if (contest.method == COMPARE) {
                long times = contest.comparedTimes(of.ballots, of.rules[FACTOR]);
                long by = Contest.comparedBy(of.ballots, of.rules[FACTOR], contest.slips[ballot]);
                return scaled(latestRisk(race), times, by);
            }
            long greatest = 1;
            for (int k = 0; k < contest.candidates && k < MOST_CANDIDATES; k++) {
                if (k != contest.winner) {
                    long then = contest.polled(own[race][k], k, contest.shown[ballot]);
                    if (keep) {
                        own[race][k] = then;
                    }
                    greatest = Math.max(greatest, then);
                }
            }
            return greatest;
        }
    }

    /** The latest ACTS, each with what undoes it. */
    private static final class Acts {
        static final int DRAW = 0;
        static final int PAPER = 1;
        static final int WAY = 2;
        static final int RULE = 3;

        private final int[] kinds = new int[MOST_ACTS];
        private final int[] ofs = new int[MOST_ACTS];
        private final int[] ballots = new int[MOST_ACTS];
        private final int[] wases = new int[MOST_ACTS];
        int size = 0;
        int kind = 0;
        int of = 0;
        int ballot = 0;
        int was = 0;

        void forget() {
            size = 0;
        }

        void add(int newKind, int newOf, int newBallot, int newWas) {
            if (size >= MOST_ACTS) {
                dropOldest(kinds);
                dropOldest(ofs);
                dropOldest(ballots);
                dropOldest(wases);
                size = MOST_ACTS - 1;
            }
            kinds[size] = newKind;
            ofs[size] = newOf;
            ballots[size] = newBallot;
            wases[size] = newWas;
            size++;
        }

        private static void dropOldest(int[] row) {
            System.arraycopy(row, 1, row, 0, row.length - 1);
        }

        /** Takes the latest ACT off and lays it into kind, of, ballot, was; false: there is none. */
        boolean takeLatest() {
            if (size <= 0) {
                return false;
            }
            size--;
            kind = kinds[size];
            of = ofs[size];
            ballot = ballots[size];
            was = wases[size];
            return true;
        }
    }

    /** What say() SAID. */
    private static final class Speech {
        final int[] bytes = new int[64];
        int length = 0;

        void fallSilent() {
            length = 0;
        }

        void put(int sign) {
            if (length < bytes.length) {
                bytes[length] = sign;
                length++;
            }
        }

        void putNumber(long number) {
            long power = 1;
            for (int k = 0; k < 17 && number / 10 >= power; k++) {
                power *= 10;
            }
            for (long p = power; p > 0; p /= 10) {
                put('0' + (int) (number / p % 10));
            }
        }
    }

    /** Goes through a text TOKEN by TOKEN up to its first FAULT. */
    private static final class Reader {
        private static final int END = 0;
        private static final int WORD = 1;
        private static final int NUMBER = 2;
        private static final int SIGN = 3;

        private byte[] text = new byte[0];
        private int length = 0;
        private int start = 0;
        private int end = 0;
        private int kind = END;
        private int number = 0;
        int wrong = 0;
        int place = NONE;

        void open(byte[] bytes, int n) {
            text = bytes;
            length = Math.max(0, Math.min(n, bytes.length));
            end = 0;
            wrong = 0;
            place = NONE;
            step();
        }

        boolean isFine() {
            return wrong == 0;
        }

        boolean isEnd() {
            return kind == END;
        }

        /** Tells a FAULT at the TOKEN that is looked at; only the first one counts. */
        void fail(int fault) {
            if (wrong == 0) {
                wrong = fault;
                place = start;
            }
        }

        /** Goes on to the next TOKEN. */
        void step() {
            start = end;
            while (start < length && (text[start] == ' ' || text[start] == '\n')) {
                start++;
            }
            end = start;
            kind = END;
            while (end < length && text[end] >= 'a' && text[end] <= 'z') {
                kind = WORD;
                end++;
            }
            if (kind == WORD) {
                return;
            }
            number = 0;
            while (end < length && text[end] >= '0' && text[end] <= '9') {
                kind = NUMBER;
                number = Math.min(ANY, number * 10 + text[end] - '0');
                end++;
            }
            if (kind == END && end < length) {
                kind = SIGN;
                end++;
            }
        }

        boolean isWord(String word) {
            if (wrong != 0 || kind != WORD || end - start != word.length()) {
                return false;
            }
            for (int k = 0; k < word.length() && start + k < length; k++) {
                if (text[start + k] != word.charAt(k)) {
                    return false;
                }
            }
            return true;
        }

        boolean isSign(char sign) {
            return wrong == 0 && kind == SIGN && start < length && text[start] == sign;
        }

        boolean isNumber() {
            return wrong == 0 && kind == NUMBER;
        }

        /** Goes on behind a word, if it stands here. */
        boolean skipWord(String word) {
            boolean stands = isWord(word);
            if (stands) {
                step();
            }
            return stands;
        }

        /** Goes on behind a sign, if it stands here. */
        boolean skipSign(char sign) {
            boolean stands = isSign(sign);
            if (stands) {
                step();
            }
            return stands;
        }

        void needSign(char sign) {
            if (!skipSign(sign)) {
                fail(1);
            }
        }

        /** A NUMBER that must be low to high (FAULT 2) and at most room (FAULT 3); low behind a FAULT. */
        int needNumber(int low, int high, int room) {
            if (!isNumber()) {
                fail(1);
            } else if (number < low || number > high) {
                fail(2);
            } else if (number > room) {
                fail(3);
            } else {
                int read = number;
                step();
                return read;
            }
            return low;
        }
    }

    /** The TEXT that tells AN ELECTION. */
    private static final class ElectionText {
        /** Tells the election; it is of use only if the reader is fine behind it. */
        static void tell(Reader in, Election told) {
            told.empty();
            readRace(in, told);
            for (int k = 0; k < MOST_TAPE && in.isWord("race"); k++) {
                readRace(in, told);
            }
            for (int k = 0; k < MOST_TAPE && in.isFine() && !in.isEnd(); k++) {
                readLine(in, told);
            }
            if (in.isFine()) {
                told.reckonAll();
            }
        }

        private static void readRace(Reader in, Election told) {
            if (!in.isWord("race")) {
                in.fail(1);
                return;
            }
            if (told.races >= MOST_RACES) {
                in.fail(3);
                return;
            }
            in.step();
            int candidates = in.needNumber(2, MOST_CANDIDATES, ANY);
            int method = readWay(in);
            in.needSign(';');
            told.contests[told.races].candidates = candidates;
            told.contests[told.races].method = method;
            told.races++;
        }

        private static int readWay(Reader in) {
            if (in.skipWord("poll")) {
                return POLL;
            }
            if (!in.skipWord("compare")) {
                in.fail(1);
            }
            return COMPARE;
        }

        private static void readLine(Reader in, Election told) {
            if (in.skipWord("ballots")) {
                readBallots(in, told);
            } else if (in.skipWord("paper")) {
                readPaper(in, told);
            } else if (in.skipWord("limit")) {
                readRule(in, told, LIMIT);
            } else if (in.skipWord("factor")) {
                readRule(in, told, FACTOR);
            } else if (in.skipWord("most")) {
                readRule(in, told, MOST);
            } else if (in.skipWord("seed")) {
                told.seed = in.needNumber(0, 999999, ANY);
            } else {
                in.fail(1);
            }
            in.needSign(';');
        }

        private static void readBallots(Reader in, Election told) {
            int many = in.needNumber(1, 99, MOST_BALLOTS - told.ballots);
            int from = told.ballots;
            int to = Math.min(from + many, MOST_BALLOTS);
            for (int race = 0; race < told.races && race < MOST_RACES; race++) {
                Contest contest = told.contests[race];
                int choice = readChoice(in, contest);
                for (int ballot = from; ballot < to; ballot++) {
                    contest.recorded[ballot] = choice;
                    contest.shown[ballot] = choice;
                }
            }
            told.ballots = to;
        }

        private static void readPaper(Reader in, Election told) {
            int ballot = in.needNumber(0, told.ballots - 1, ANY);
            int race = in.needNumber(0, told.races - 1, ANY);
            if (race >= told.races || race >= MOST_RACES) {
                return;
            }
            int choice = readChoice(in, told.contests[race]);
            if (in.isFine() && ballot < told.ballots) {
                told.contests[race].shown[ballot] = choice;
            }
        }

        private static void readRule(Reader in, Election told, int what) {
            told.setRule(what, in.needNumber(leastOf(what), mostOf(what), ANY));
        }

        private static int readChoice(Reader in, Contest contest) {
            if (in.skipWord("blank")) {
                return BLANK;
            }
            if (in.skipWord("off")) {
                return OFF;
            }
            return in.needNumber(0, contest.candidates - 1, ANY);
        }
    }

    /** A QUESTION as a row of steps on a stack, so that its text is gone through but once. */
    private static final class Question {
        private static final int MANY = 0;
        private static final int FIRST = 1;
        private static final int DREW = 2;

        private static final int GIVEN = 0;
        private static final int NUMBER = 1;
        private static final int OFTEN = 2;
        private static final int RECORD = 3;
        private static final int SHOWN = 4;
        private static final int SLIP = 5;
        private static final int LESS = 6;
        private static final int SAME = 7;
        private static final int GREATER = 8;
        private static final int NOT = 9;
        private static final int AND = 10;
        private static final int OR = 11;

        private final int[] steps = new int[MOST_QUESTION];
        private final int[] givens = new int[MOST_QUESTION];
        private final int[] stack = new int[64];
        private int length = 0;
        private int height = 0;
        private int asked = MANY;

        void hear(Reader in, int races) {
            length = 0;
            if (in.skipWord("many")) {
                asked = MANY;
            } else if (in.skipWord("first")) {
                asked = FIRST;
            } else if (in.skipWord("drawn")) {
                asked = DREW;
            } else {
                in.fail(1);
            }
            readTest(in, races, 0);
            if (!in.isEnd()) {
                in.fail(1);
            }
        }

        private void readTest(Reader in, int races, int open) {
            readBoth(in, races, open);
            for (int k = 0; k < MOST_QUESTION && in.skipWord("or"); k++) {
                readBoth(in, races, open);
                add(OR, 0);
            }
        }

        private void readBoth(Reader in, int races, int open) {
            readFact(in, races, open);
            for (int k = 0; k < MOST_QUESTION && in.skipWord("and"); k++) {
                readFact(in, races, open);
                add(AND, 0);
            }
        }

        private void readFact(Reader in, int races, int open) {
            boolean isNot = in.isWord("not");
            if (!isNot && !in.isSign('{')) {
                readComparison(in, races);
                return;
            }
            if (open >= MOST_OPEN) {
                in.fail(3);
                return;
            }
            in.step();
            if (isNot) {
                readFact(in, races, open + 1);
                add(NOT, 0);
            } else {
                readTest(in, races, open + 1);
                in.needSign('}');
            }
        }

        private void readComparison(Reader in, int races) {
            readValue(in, races);
            int step = SAME;
            if (in.skipSign('<')) {
                step = LESS;
            } else if (in.skipSign('>')) {
                step = GREATER;
            } else {
                in.needSign('=');
            }
            readValue(in, races);
            add(step, 0);
        }

        private void readValue(Reader in, int races) {
            if (in.skipWord("blank")) {
                add(GIVEN, BLANK);
            } else if (in.skipWord("off")) {
                add(GIVEN, OFF);
            } else if (in.skipWord("number")) {
                add(NUMBER, 0);
            } else if (in.skipWord("times")) {
                add(OFTEN, 0);
            } else if (in.skipWord("record")) {
                add(RECORD, in.needNumber(0, races - 1, ANY));
            } else if (in.skipWord("paper")) {
                add(SHOWN, in.needNumber(0, races - 1, ANY));
            } else if (in.skipWord("mistake")) {
                add(SLIP, in.needNumber(0, races - 1, ANY));
            } else {
                add(GIVEN, in.needNumber(0, 9999, ANY));
            }
        }

        private void add(int step, int given) {
            if (length < MOST_QUESTION) {
                steps[length] = step;
                givens[length] = given;
                length++;
            }
        }

        int answer(Election of, Audit audit) {
            int sum = 0;
            for (int ballot = 0; ballot < of.ballots && ballot < MOST_BALLOTS; ballot++) {
                if (holds(of, audit, ballot)) {
                    if (asked == FIRST) {
                        return ballot;
                    }
                    sum += asked == MANY ? 1 : audit.often[ballot];
                }
            }
            return asked == FIRST ? NONE : sum;
        }

        private boolean holds(Election of, Audit audit, int ballot) {
            height = 0;
            for (int k = 0; k < length && k < MOST_QUESTION; k++) {
                int step = steps[k];
                if (step <= OFTEN) {
                    push(ballotValue(step, givens[k], audit, ballot));
                } else if (step <= SLIP) {
                    push(raceValue(step, givens[k], of, ballot));
                } else if (step == NOT) {
                    push(1 - pop());
                } else {
                    int right = pop();
                    push(isSo(step, pop(), right) ? 1 : 0);
                }
            }
            return pop() != 0;
        }

        private static int ballotValue(int step, int given, Audit audit, int ballot) {
            if (step == GIVEN) {
                return given;
            }
            return step == NUMBER ? ballot : audit.often[ballot];
        }

        private static int raceValue(int step, int race, Election of, int ballot) {
            if (race < 0 || race >= MOST_RACES) {
                return 0;
            }
            Contest contest = of.contests[race];
            if (step == SLIP) {
                return contest.slips[ballot];
            }
            return step == RECORD ? contest.recorded[ballot] : contest.shown[ballot];
        }

        private static boolean isSo(int step, int left, int right) {
            switch (step) {
                case LESS: return left < right;
                case SAME: return left == right;
                case GREATER: return left > right;
                case AND: return left != 0 && right != 0;
                default: return left != 0 || right != 0;
            }
        }

        private void push(int value) {
            if (height < stack.length) {
                stack[height] = value;
                height++;
            }
        }

        private int pop() {
            if (height <= 0) {
                return 0;
            }
            height--;
            return stack[height];
        }
    }
}
