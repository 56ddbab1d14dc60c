import java.math.BigInteger;
import java.util.ArrayDeque;
import java.util.ArrayList;
import java.util.Arrays;
import java.util.Deque;
import java.util.List;
import java.util.NoSuchElementException;

/**
 * The document told once more, in the plainest form that could be found: great numbers, nothing
 * kept that can be reckoned, the state before each ACT kept whole. It shares no line with the class.
 */
final class Model {
    static final int NONE = -1;
    private static final BigInteger WHOLE = BigInteger.valueOf(1000000000L);
    private static final BigInteger TOP = BigInteger.TEN.pow(13);

    /** A text's first FAULT. */
    private static final class Fault extends RuntimeException {
        private static final long serialVersionUID = 1L;
        final int sort;
        final int place;

        Fault(int sort, int place) {
            super(null, null, false, false);
            this.sort = sort;
            this.place = place;
        }
    }

    /** All of an election that can change by an ACT. */
    private static final class State {
        int[] candidates = new int[0];
        int[] ways = new int[0];
        int[][] recorded = new int[0][];
        int[][] papers = new int[0][];
        int limit = 50;
        int factor = 110;
        int most = 100;
        int seed = 0;
        int draws = 0;

        State copy() {
            State s = new State();
            s.candidates = candidates.clone();
            s.ways = ways.clone();
            s.recorded = deep(recorded);
            s.papers = deep(papers);
            s.limit = limit;
            s.factor = factor;
            s.most = most;
            s.seed = seed;
            s.draws = draws;
            return s;
        }

        private static int[][] deep(int[][] rows) {
            int[][] out = new int[rows.length][];
            for (int i = 0; i < rows.length; i++) {
                out[i] = rows[i].clone();
            }
            return out;
        }

        int races() {
            return candidates.length;
        }

        int ballots() {
            return recorded.length;
        }

        /** VOTES as recorded, once they were counted: an ACT never changes them. */
        private int[][] counted = null;

        int votes(int race, int candidate, boolean hand) {
            if (hand) {
                return votes(papers, race, candidate);
            }
            if (counted == null) {
                counted = new int[races()][4];
                for (int r = 0; r < races(); r++) {
                    for (int c = 0; c < candidates[r]; c++) {
                        counted[r][c] = votes(recorded, r, c);
                    }
                }
            }
            return counted[race][candidate];
        }

        private static int votes(int[][] rows, int race, int candidate) {
            int n = 0;
            for (int[] b : rows) {
                n += b[race] == candidate ? 1 : 0;
            }
            return n;
        }

        int winner(int race, boolean hand) {
            int best = 0;
            for (int c = 1; c < candidates[race]; c++) {
                best = votes(race, c, hand) > votes(race, best, hand) ? c : best;
            }
            return best;
        }

        int margin(int race) {
            int w = winner(race, false);
            int other = -1;
            for (int c = 0; c < candidates[race]; c++) {
                other = c == w ? other : Math.max(other, votes(race, c, false));
            }
            return votes(race, w, false) - other;
        }

        int mistake(int race, int ballot) {
            int w = winner(race, false);
            int best = -9;
            for (int c = 0; c < candidates[race]; c++) {
                if (c != w) {
                    int r = recorded[ballot][race] == w ? 1 : recorded[ballot][race] == c ? -1 : 0;
                    int p = papers[ballot][race] == w ? 1 : papers[ballot][race] == c ? -1 : 0;
                    best = Math.max(best, r - p);
                }
            }
            return best;
        }

        BigInteger goal() {
            return BigInteger.valueOf(limit * 1000000L);
        }
    }

    private static BigInteger step(BigInteger risk, long times, long by) {
        if (by == 0) {
            return TOP;
        }
        BigInteger[] parts = risk.multiply(BigInteger.valueOf(times)).divideAndRemainder(BigInteger.valueOf(by));
        BigInteger up = parts[1].signum() == 0 ? parts[0] : parts[0].add(BigInteger.ONE);
        return up.max(BigInteger.ONE).min(TOP);
    }

    /** What an audit knows of one race. */
    private static final class Known {
        BigInteger[] own;
        BigInteger risk = WHOLE;
        final List<BigInteger> history = new ArrayList<>();
        int done = NONE;

        void see(State s, int race, int record, int paper, int mistake) {
            if (done != NONE) {
                return;
            }
            int w = s.winner(race, false);
            if (s.ways[race] == 0) {
                risk = step(risk, (long) s.factor * s.ballots() - 50L * s.margin(race),
                    (long) s.ballots() * (s.factor - 50 * mistake));
                return;
            }
            risk = BigInteger.ZERO;
            for (int c = 0; c < s.candidates[race]; c++) {
                if (c != w) {
                    int vw = s.votes(race, w, false);
                    int vc = s.votes(race, c, false);
                    if (paper == w) {
                        own[c] = step(own[c], vw + vc, 2L * vw);
                    } else if (paper == c) {
                        own[c] = step(own[c], vw + vc, 2L * vc);
                    }
                    risk = risk.max(own[c]);
                }
            }
        }

        Known copy() {
            Known k = new Known();
            k.own = own.clone();
            k.risk = risk;
            k.done = done;
            return k;
        }
    }

    private static final class Audit {
        final List<Integer> draws = new ArrayList<>();
        final List<Known> races = new ArrayList<>();

        Audit(State s, int seed, int most) {
            for (int r = 0; r < s.races(); r++) {
                Known k = new Known();
                k.own = new BigInteger[s.candidates[r]];
                Arrays.fill(k.own, WHOLE);
                k.history.add(WHOLE);
                races.add(k);
            }
            int x = seed;
            while (!over() && draws.size() < most && s.ballots() > 0) {
                x = x * 1103515245 + 12345;
                int ballot = (x >> 16 & 0x7fff) % s.ballots();
                draws.add(ballot);
                for (int r = 0; r < races.size(); r++) {
                    Known k = races.get(r);
                    k.see(s, r, s.recorded[ballot][r], s.papers[ballot][r], s.mistake(r, ballot));
                    k.history.add(k.risk);
                    if (k.done == NONE && k.risk.compareTo(s.goal()) <= 0) {
                        k.done = draws.size();
                    }
                }
            }
        }

        boolean over() {
            for (Known k : races) {
                if (k.done == NONE) {
                    return false;
                }
            }
            return true;
        }
    }

    private final List<Integer> tape = new ArrayList<>();
    private State s = new State();
    private int fault = NONE;
    private String said = "";
    private final Deque<State> acts = new ArrayDeque<>();
    private State kept = null;
    private Audit known = null;

    private Audit audit() {
        if (known == null) {
            known = new Audit(s, s.seed, s.draws);
        }
        return known;
    }

    private void act() {
        acts.addLast(s.copy());
        if (acts.size() > 12) {
            acts.removeFirst();
        }
        known = null;
    }

    private void seekRace(int race) {
        if (race < 0 || race >= s.races()) {
            throw new NoSuchElementException();
        }
    }

    private void seekCandidate(int race, int candidate) {
        if (candidate < 0 || candidate >= s.candidates[race]) {
            throw new NoSuchElementException();
        }
    }

    private void seekBallot(int ballot) {
        if (ballot < 0 || ballot >= s.ballots()) {
            throw new NoSuchElementException();
        }
    }

    private static void seek(int v, int low, int high) {
        if (v < low || v > high) {
            throw new NoSuchElementException();
        }
    }

    private static void fit(int v, int low, int high) {
        if (v < low || v > high) {
            throw new IllegalArgumentException();
        }
    }

    int feed(int... numbers) {
        if (tape.size() + 20 > 600) {
            return NONE;
        }
        for (int n : numbers) {
            tape.add(n >> 24 & 255);
            tape.add(n >> 16 & 255);
            tape.add(n >> 8 & 255);
            tape.add(n & 255);
        }
        return tape.size();
    }

    private Text take(int n) {
        StringBuilder text = new StringBuilder();
        for (int i = 0; i < n; i++) {
            text.append((char) (int) tape.get(i));
        }
        tape.clear();
        return new Text(text.toString());
    }

    int election(int n) {
        fit(n, 0, tape.size());
        try {
            s = new ElectionTold(take(n)).told;
        } catch (Fault f) {
            fault = f.place;
            return -10 - f.sort;
        }
        fault = NONE;
        acts.clear();
        known = null;
        return s.ballots();
    }

    int fault() {
        return fault;
    }

    boolean byHand() {
        return !audit().over() && audit().draws.size() >= s.most;
    }

    int count(int what) {
        seek(what, 0, 11);
        int done = 0;
        for (Known k : audit().races) {
            done += k.done == NONE ? 0 : 1;
        }
        int[] all = {s.races(), s.ballots(), s.limit, s.factor, s.most, audit().draws.size(),
            (int) audit().draws.stream().distinct().count(), done, audit().over() ? 1 : 0, byHand() ? 1 : 0,
            acts.size(), tape.size()};
        return all[what];
    }

    int race(int race, int what) {
        seekRace(race);
        seek(what, 0, 7);
        int done = audit().races.get(race).done;
        int wins = done != NONE ? s.winner(race, false) : byHand() ? s.winner(race, true) : NONE;
        int[] all = {s.candidates[race], s.ways[race], s.winner(race, false), s.winner(race, true), s.margin(race),
            done == NONE ? 0 : 1, done, wins};
        return all[what];
    }

    long risk(int race) {
        seekRace(race);
        return audit().races.get(race).risk.longValueExact();
    }

    long riskOf(int race, int candidate) {
        seekRace(race);
        seekCandidate(race, candidate);
        if (candidate == s.winner(race, false)) {
            return 0;
        }
        return s.ways[race] == 0 ? risk(race) : audit().races.get(race).own[candidate].longValueExact();
    }

    int worst(int race) {
        seekRace(race);
        int found = NONE;
        for (int b = 0; b < s.ballots(); b++) {
            if (found == NONE || next(race, b) > next(race, found)) {
                found = b;
            }
        }
        return found;
    }

    private BigInteger rarer(BigInteger chance, int race) {
        int without = 0;
        for (int b = 0; b < s.ballots(); b++) {
            without += s.mistake(race, b) > 0 ? 0 : 1;
        }
        if (s.ballots() == 0) {
            return chance;
        }
        BigInteger n = BigInteger.valueOf(s.ballots());
        return chance.multiply(BigInteger.valueOf(without)).add(n).subtract(BigInteger.ONE).divide(n);
    }

    long chance(int race, int n) {
        seekRace(race);
        fit(n, 0, 300);
        BigInteger chance = WHOLE;
        for (int i = 0; i < n; i++) {
            chance = rarer(chance, race);
        }
        return chance.longValueExact();
    }

    int enough(int race) {
        seekRace(race);
        BigInteger chance = WHOLE;
        BigInteger before = null;
        for (int n = 0; n <= 5000 && !chance.equals(before); n++) {
            if (chance.compareTo(s.goal()) <= 0) {
                return n;
            }
            before = chance;
            chance = rarer(chance, race);
        }
        return NONE;
    }

    int flips(int race, int what) {
        seekRace(race);
        seek(what, 0, 1);
        int right = s.winner(race, true);
        for (int n = 0; ; n++) {
            for (int c = 0; c < s.candidates[race]; c++) {
                int mine = s.votes(race, c, true) + n;
                int its = s.votes(race, right, true) - n;
                if (c != right && (mine > its || mine == its && c < right)) {
                    return what == 0 ? n : c;
                }
            }
        }
    }

    int say() {
        StringBuilder text = new StringBuilder();
        for (int r = 0; r < s.races(); r++) {
            Known k = audit().races.get(r);
            text.append(r == 0 ? "" : ",").append(s.ways[r] == 0 ? "c" : "p").append("abcd".charAt(s.winner(r, false)));
            text.append(k.done == NONE ? ":" + k.risk.longValueExact() / 1000000 : "!" + k.done);
        }
        text.append(byHand() ? ";" : audit().over() ? "" : "?");
        said = text.toString();
        return said.length();
    }

    int said(int i) {
        return i < 0 || i >= said.length() ? NONE : said.charAt(i);
    }

    int votes(int race, int candidate, boolean hand) {
        seekRace(race);
        seekCandidate(race, candidate);
        return s.votes(race, candidate, hand);
    }

    int ballot(int ballot, int race, int what) {
        seekBallot(ballot);
        seekRace(race);
        seek(what, 0, 2);
        return what == 0 ? s.recorded[ballot][race] : what == 1 ? s.papers[ballot][race] : s.mistake(race, ballot);
    }

    int drawn(int k) {
        seek(k, 0, audit().draws.size() - 1);
        return audit().draws.get(k);
    }

    int times(int ballot) {
        seekBallot(ballot);
        int n = 0;
        for (int b : audit().draws) {
            n += b == ballot ? 1 : 0;
        }
        return n;
    }

    int mistakes(int race, int mistake) {
        seekRace(race);
        seek(mistake, -2, 2);
        int n = 0;
        for (int b : audit().draws) {
            n += s.mistake(race, b) == mistake ? 1 : 0;
        }
        return n;
    }

    long riskAt(int race, int k) {
        seekRace(race);
        seek(k, 0, audit().draws.size());
        return audit().races.get(race).history.get(k).longValueExact();
    }

    int draw(int n) {
        fit(n, 1, 300);
        int before = audit().draws.size();
        if (audit().over() || before >= s.most || s.ballots() == 0) {
            return NONE;
        }
        act();
        s.draws = new Audit(s, s.seed, Math.min(s.most, before + n)).draws.size();
        return s.draws - before;
    }

    long next(int race, int ballot) {
        seekRace(race);
        seekBallot(ballot);
        Known k = audit().races.get(race).copy();
        k.see(s, race, s.recorded[ballot][race], s.papers[ballot][race], s.mistake(race, ballot));
        return k.risk.longValueExact();
    }

    int paper(int ballot, int race, int choice) {
        seekBallot(ballot);
        seekRace(race);
        fit(choice, -2, s.candidates[race] - 1);
        act();
        int was = s.papers[ballot][race];
        s.papers[ballot][race] = choice;
        return was;
    }

    int way(int race, int way) {
        seekRace(race);
        fit(way, 0, 1);
        act();
        int was = s.ways[race];
        s.ways[race] = way;
        return was;
    }

    int rule(int what, int v) {
        seek(what, 0, 2);
        fit(v, what == 1 ? 101 : 1, what == 0 ? 500 : 300);
        act();
        int was = what == 0 ? s.limit : what == 1 ? s.factor : s.most;
        s.limit = what == 0 ? v : s.limit;
        s.factor = what == 1 ? v : s.factor;
        s.most = what == 2 ? v : s.most;
        return was;
    }

    int undo() {
        if (acts.isEmpty()) {
            return NONE;
        }
        s = acts.removeLast();
        known = null;
        return acts.size();
    }

    /** Draws all MISTAKES and then as many others as it takes, from what is known of the race so far. */
    private static int reckon(State s, int race, Known from, int ones, int twos) {
        Known k = from.copy();
        int w = s.winner(race, false);
        int rival = -1;
        for (int c = 0; c < s.candidates[race]; c++) {
            if (c != w && (rival < 0 || s.votes(race, c, false) > s.votes(race, rival, false))) {
                rival = c;
            }
        }
        for (int n = 0; n <= 5000; n++) {
            if (n >= ones + twos && k.risk.compareTo(s.goal()) <= 0) {
                return n;
            }
            BigInteger[] was = k.own.clone();
            BigInteger risk = k.risk;
            int paper = n < twos ? rival : n < ones + twos ? -1 : w;
            k.see(s, race, w, paper, n < twos ? 2 : n < ones + twos ? 1 : 0);
            if (n >= ones + twos && Arrays.equals(was, k.own) && risk.equals(k.risk)) {
                return NONE;
            }
        }
        return NONE;
    }

    private static Known fresh(State s, int race) {
        Known k = new Known();
        k.own = new BigInteger[s.candidates[race]];
        Arrays.fill(k.own, WHOLE);
        return k;
    }

    int need(int race, int ones, int twos) {
        seekRace(race);
        fit(ones, 0, 99);
        fit(twos, 0, 99);
        return reckon(s, race, fresh(s, race), ones, twos);
    }

    int bestFactor(int race, int ones, int twos) {
        seekRace(race);
        fit(ones, 0, 99);
        fit(twos, 0, 99);
        int best = NONE;
        int least = NONE;
        for (int factor = 101; factor <= 300; factor++) {
            State by = s.copy();
            by.factor = factor;
            int n = reckon(by, race, fresh(by, race), ones, twos);
            if (n != NONE && (best == NONE || n < least)) {
                best = factor;
                least = n;
            }
        }
        return best;
    }

    int more(int race) {
        seekRace(race);
        Known k = audit().races.get(race);
        return k.done != NONE ? 0 : reckon(s, race, k, 0, 0);
    }

    int tries(int race, int seed, int n, int what) {
        seekRace(race);
        seek(what, 0, 2);
        fit(n, 1, 30);
        int[] sums = new int[3];
        for (int i = 0; i < n; i++) {
            Audit a = new Audit(s, seed + i, s.most);
            boolean done = a.races.get(race).done != NONE;
            sums[0] += done ? 1 : 0;
            sums[1] += a.draws.size();
            sums[2] += done && s.winner(race, false) != s.winner(race, true) ? 1 : 0;
        }
        return sums[what];
    }

    int quickest(int seed, int n) {
        fit(n, 1, 30);
        int best = NONE;
        int least = 1000;
        for (int i = 0; i < n; i++) {
            Audit a = new Audit(s, seed + i, s.most);
            if (a.over() && a.draws.size() < least) {
                best = i;
                least = a.draws.size();
            }
        }
        return best;
    }

    int ask(int n) {
        fit(n, 0, Math.min(200, tape.size()));
        Text text = take(n);
        String asked;
        Fact fact;
        try {
            asked = text.one("many", "first", "drawn");
            fact = test(text, 0);
            text.mustEnd();
        } catch (Fault f) {
            fault = f.place;
            return -1000000000 - f.sort;
        }
        fault = NONE;
        int first = NONE;
        int many = 0;
        int draws = 0;
        for (int b = 0; b < s.ballots(); b++) {
            if (fact.of(b) != 0) {
                first = first == NONE ? b : first;
                many++;
                draws += times(b);
            }
        }
        return asked.equals("many") ? many : asked.equals("first") ? first : draws;
    }

    void image() {
        kept = s.copy();
    }

    boolean back() {
        if (kept == null) {
            return false;
        }
        s = kept.copy();
        acts.clear();
        known = null;
        return true;
    }

    private interface Fact {
        int of(int ballot);
    }

    private Fact test(Text text, int open) {
        Fact left = both(text, open);
        while (text.skips("or")) {
            Fact a = left;
            Fact b = both(text, open);
            left = i -> a.of(i) | b.of(i);
        }
        return left;
    }

    private Fact both(Text text, int open) {
        Fact left = fact(text, open);
        while (text.skips("and")) {
            Fact a = left;
            Fact b = fact(text, open);
            left = i -> a.of(i) & b.of(i);
        }
        return left;
    }

    private Fact fact(Text text, int open) {
        if ((text.is("not") || text.is("{")) && open == 6) {
            throw text.fault(3);
        }
        if (text.skips("not")) {
            Fact a = fact(text, open + 1);
            return i -> a.of(i) == 0 ? 1 : 0;
        }
        if (text.skips("{")) {
            Fact a = test(text, open + 1);
            text.one("}");
            return a;
        }
        Fact a = value(text);
        String sign = text.one("<", "=", ">");
        Fact b = value(text);
        return i -> Integer.signum(a.of(i) - b.of(i)) == "<=>".indexOf(sign) - 1 ? 1 : 0;
    }

    private Fact value(Text text) {
        if (text.isNumber()) {
            int n = text.number(0, 9999);
            return i -> n;
        }
        String word = text.one("blank", "off", "number", "times", "record", "paper", "mistake");
        switch (word) {
            case "blank": return i -> -1;
            case "off": return i -> -2;
            case "number": return i -> i;
            case "times": return i -> times(i);
            default:
        }
        int race = text.number(0, s.races() - 1);
        int what = word.equals("record") ? 0 : word.equals("paper") ? 1 : 2;
        return i -> ballot(i, race, what);
    }

    /** The TEXT of an election, read token by token. */
    private static final class ElectionTold {
        final State told = new State();
        private final Text text;

        ElectionTold(Text text) {
            this.text = text;
            text.mustBe("race");
            while (text.is("race")) {
                race();
            }
            while (!text.isEnd()) {
                line();
            }
        }

        private void race() {
            if (told.races() == 3) {
                throw text.fault(3);
            }
            text.one("race");
            told.candidates = with(told.candidates, text.number(2, 4));
            told.ways = with(told.ways, text.one("compare", "poll").equals("poll") ? 1 : 0);
            text.one(";");
        }

        private void line() {
            switch (text.one("ballots", "paper", "limit", "factor", "most", "seed")) {
                case "ballots": ballots(); break;
                case "paper":
                    int ballot = text.number(0, told.ballots() - 1);
                    int race = text.number(0, told.races() - 1);
                    told.papers[ballot][race] = choice(race);
                    break;
                case "limit": told.limit = text.number(1, 500); break;
                case "factor": told.factor = text.number(101, 300); break;
                case "most": told.most = text.number(1, 300); break;
                default: told.seed = text.number(0, 999999); break;
            }
            text.one(";");
        }

        private void ballots() {
            Fault tooMany = text.fault(3);
            int many = text.number(1, 99);
            if (told.ballots() + many > 200) {
                throw tooMany;
            }
            int[] alike = new int[told.races()];
            for (int r = 0; r < alike.length; r++) {
                alike[r] = choice(r);
            }
            int had = told.ballots();
            told.recorded = Arrays.copyOf(told.recorded, had + many);
            told.papers = Arrays.copyOf(told.papers, had + many);
            for (int b = had; b < had + many; b++) {
                told.recorded[b] = alike.clone();
                told.papers[b] = alike.clone();
            }
        }

        private int choice(int race) {
            if (text.isNumber()) {
                return text.number(0, told.candidates[race] - 1);
            }
            return text.one("blank", "off").equals("blank") ? -1 : -2;
        }

        private static int[] with(int[] row, int v) {
            int[] out = Arrays.copyOf(row, row.length + 1);
            out[row.length] = v;
            return out;
        }
    }

    /** A text cut into its TOKENS. */
    private static final class Text {
        private final List<String> tokens = new ArrayList<>();
        private final List<Integer> places = new ArrayList<>();
        private int at = 0;

        Text(String all) {
            java.util.regex.Matcher m = java.util.regex.Pattern.compile("[a-z]+|[0-9]+|[^ \n]", java.util.regex.Pattern.DOTALL)
                .matcher(all);
            while (m.find()) {
                tokens.add(m.group());
                places.add(m.start());
            }
            tokens.add("");
            places.add(all.length());
        }

        Fault fault(int sort) {
            return new Fault(sort, places.get(at));
        }

        boolean is(String token) {
            return tokens.get(at).equals(token);
        }

        boolean isEnd() {
            return is("");
        }

        boolean isNumber() {
            return !isEnd() && Character.isDigit(tokens.get(at).charAt(0)) && tokens.get(at).charAt(0) < 128;
        }

        void mustBe(String token) {
            if (!is(token)) {
                throw fault(1);
            }
        }

        void mustEnd() {
            mustBe("");
        }

        boolean skips(String token) {
            boolean is = is(token);
            at += is ? 1 : 0;
            return is;
        }

        String one(String... of) {
            for (String token : of) {
                if (skips(token)) {
                    return token;
                }
            }
            throw fault(1);
        }

        int number(int low, int high) {
            if (!isNumber()) {
                throw fault(1);
            }
            BigInteger n = new BigInteger(tokens.get(at));
            if (n.compareTo(BigInteger.valueOf(low)) < 0 || n.compareTo(BigInteger.valueOf(high)) > 0) {
                throw fault(2);
            }
            at++;
            return n.intValue();
        }
    }
}
