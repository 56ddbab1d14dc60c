/** The edges of texts: the tape, elections, questions, their TOKENS and FAULTS. */
public final class EdgesOfTextsTest {
    private static final Edges E = new Edges();
    private static final String RACE = "race 2 poll;";
    private static final String THREE_RACES = RACE + "race 3 compare;" + "race 4 poll;";
    private static final String MOST_BUT_TWO = RACE + "ballots 99 0;ballots 99 0;";

    public static void main(String[] args) {
        racesAndCandidates();
        ballots();
        rules();
        tokens();
        grammar();
        lines();
        faults();
        questions();
        openOnes();
        feed();
        election();
        fault();
        ask();
        E.end(2, 3, 4, 32);
    }

    private static void good(String text, int ballots) {
        DrawnBallots x = new DrawnBallots();
        E.due("election '" + text + "'", Feeder.election(x, text), ballots);
        E.due("fault of '" + text + "'", x.fault(), -1);
    }

    /** A text whose FAULT stands where the sign @ does (it is taken out). */
    private static void wrong(String marked, int fault) {
        String text = marked.replace("@", "");
        DrawnBallots x = new DrawnBallots();
        E.due("election '" + text + "'", Feeder.election(x, text), -10 - fault);
        E.due("fault of '" + text + "'", x.fault(), marked.indexOf('@'));
        E.due("races behind '" + text + "'", x.count(0), 0);
    }

    private static DrawnBallots some() {
        return Feeder.made("race 3 poll;race 2 compare;ballots 4 0 1;ballots 3 1 off;ballots 3 blank 0;"
            + "paper 2 0 1;paper 8 1 1;limit 1;seed 7;");
    }

    private static void answers(String question, int answer) {
        DrawnBallots x = some();
        x.draw(7);
        E.due("ask '" + question + "'", Feeder.ask(x, question), answer);
        E.due("fault of '" + question + "'", x.fault(), -1);
    }

    private static void asked(String marked, int fault) {
        String text = marked.replace("@", "");
        DrawnBallots x = some();
        E.due("ask '" + text + "'", Feeder.ask(x, text), -1000000000 - fault);
        E.due("fault of '" + text + "'", x.fault(), marked.indexOf('@'));
    }

    private static void racesAndCandidates() {
        E.edge(0, "AN ELECTION has RACES 0 to at most 2", () -> {
            DrawnBallots one = Feeder.made(RACE);
            E.due("one", () -> one.count(0), 1);
            E.due("one, its number 0", () -> one.race(0, 0), 2);
            E.none("one, none of number 1", () -> one.race(1, 0));
            DrawnBallots three = Feeder.made(THREE_RACES);
            E.due("three", () -> three.count(0), 3);
            E.due("three, the number 2", () -> three.race(2, 0), 4);
            E.none("three, none of number 3", () -> three.race(3, 0));
            wrong(THREE_RACES + "@" + RACE, 3);
        });
        E.edge(0, "each with 2 to 4 CANDIDATES", () -> {
            wrong("race @1 poll;", 2);
            good("race 2 poll;", 0);
            good("race 4 poll;", 0);
            wrong("race @5 poll;", 2);
            wrong("race @0 compare;", 2);
            DrawnBallots x = Feeder.made("race 2 compare;race 4 poll;ballots 2 1 3;");
            E.due("the 2nd of two", () -> x.votes(0, 1, false), 2);
            E.none("a 3rd of two", () -> x.votes(0, 2, false));
            E.due("the 4th of four", () -> x.votes(1, 3, true), 2);
            E.none("a 5th of four", () -> x.votes(1, 4, true));
        });
        E.edge(0, "a WAY (COMPARE or POLL)", () -> {
            wrong("race 2 @;", 1);
            wrong("race 2 @polls;", 1);
            wrong("race 2 @compar;", 1);
            wrong("race 2 poll @compare;", 1);
        });
    }

    private static void ballots() {
        E.edge(0, "and BALLOTS 0 to at most 199", () -> {
            good(RACE, 0);
            DrawnBallots none = Feeder.made(RACE);
            E.none("none of number 0", () -> none.ballot(0, 0, 0));
            DrawnBallots all = Feeder.made(MOST_BUT_TWO + "ballots 2 1;");
            E.due("200 of them", () -> all.count(1), 200);
            E.due("the number 199", () -> all.ballot(199, 0, 0), 1);
            E.due("the number 197", () -> all.ballot(197, 0, 0), 0);
            E.none("none of number 200", () -> all.ballot(200, 0, 0));
        });
        E.edge(0, "a CANDIDATE, blank (-1), or that the RACE isn't on it (-2)", () -> {
            DrawnBallots x = Feeder.made("race 4 poll;ballots 1 0;ballots 1 3;ballots 1 blank;ballots 1 off;");
            int[] choices = {0, 3, -1, -2};
            for (int ballot = 0; ballot < 4; ballot++) {
                E.due("recorded on " + ballot, x.ballot(ballot, 0, 0), choices[ballot]);
                E.due("on the paper of " + ballot, x.ballot(ballot, 0, 1), choices[ballot]);
            }
        });
        E.edge(0, "(1 to 99 BALLOTS alike, RECORDED and on PAPER; a CHOICE for each RACE)", () -> {
            wrong(RACE + "ballots @0 0;", 2);
            good(RACE + "ballots 1 0;", 1);
            good(RACE + "ballots 99 0;", 99);
            wrong(RACE + "ballots @100 0;", 2);
            wrong(RACE + "ballots 3 @;", 1);
            wrong(RACE + "ballots 3 0 @0;", 1);
            wrong(THREE_RACES + "ballots 3 0 0 @;", 1);
            good(THREE_RACES + "ballots 3 0 0 0;", 3);
            wrong(THREE_RACES + "ballots 3 0 0 0 @0;", 1);
            DrawnBallots x = Feeder.made(THREE_RACES + "ballots 98 0 1 3;ballots 2 1 2 off;");
            E.due("the last of the first ones", () -> x.ballot(97, 2, 0), 3);
            E.due("the first of the next ones", () -> x.ballot(98, 2, 1), -2);
            E.due("another RACE of it", () -> x.ballot(98, 1, 1), 2);
        });
        E.edge(0, "the NUMBER of ballots by which there would be more than 200", () -> {
            good(MOST_BUT_TWO + "ballots 2 0;", 200);
            wrong(MOST_BUT_TWO + "ballots @3 0;", 3);
            wrong(MOST_BUT_TWO + "ballots @99 0;", 3);
            wrong(MOST_BUT_TWO + "ballots 2 0;ballots @1 0;", 3);
            wrong(MOST_BUT_TWO + "ballots 2 0;ballots @1", 3);
        });
    }

    /** A LINE with a NUMBER: the least, the greatest, those beside. */
    private static void ruleLine(String word, int what, int least, int greatest, int atFirst) {
        wrong(RACE + word + " @" + (least - 1) + ";", 2);
        wrong(RACE + word + " @" + (greatest + 1) + ";", 2);
        for (int v : new int[] {least, greatest}) {
            DrawnBallots x = Feeder.made(RACE + word + " " + v + ";");
            E.due(word + " " + v, x.count(what), v);
        }
        E.due(word + " at first, new", new DrawnBallots().count(what), atFirst);
        DrawnBallots x = Feeder.made(RACE + word + " " + greatest + ";");
        for (int k = 0; k < 3; k++) {
            Feeder.election(x, RACE);
            E.due(word + " at first, of another election", x.count(what), atFirst);
        }
    }

    private static void rules() {
        E.edge(0, "LIMIT 1 to 500 (thousandths; 50 at first)", () -> ruleLine("limit", 2, 1, 500, 50));
        E.edge(0, "FACTOR 101 to 300 (hundredths; 110 at first)", () -> ruleLine("factor", 3, 101, 300, 110));
        E.edge(0, "MOST 1 to 300 (draws; 100 at first)", () -> ruleLine("most", 4, 1, 300, 100));
        E.edge(0, "SEED (an int; 0 at first)", () -> {
            String text = RACE + "ballots 99 0;ballots 98 1;";
            drawsOf(Feeder.made(text), 0, 197);
            drawsOf(Feeder.made(text + "seed 0;"), 0, 197);
            DrawnBallots x = Feeder.made(text + "seed 5;");
            for (int k = 0; k < 3; k++) {
                Feeder.election(x, text);
                drawsOf(x, 0, 197);
            }
        });
        E.edge(0, "(0 to 999999)", () -> {
            String text = RACE + "ballots 99 0;ballots 98 1;";
            drawsOf(Feeder.made(text + "seed 999999;"), 999999, 197);
            drawsOf(Feeder.made(text + "seed 999999;seed 0;"), 0, 197);
            wrong(RACE + "seed @1000000;", 2);
            wrong(RACE + "seed @-1;", 1);
        });
    }

    private static void drawsOf(DrawnBallots x, int seed, int ballots) {
        int[] draws = Draws.of(seed, ballots, 20);
        E.due("draws", () -> x.draw(20), 20);
        for (int k = 0; k < draws.length; k++) {
            E.due("draw " + k + " of seed " + seed, x.drawn(k), draws[k]);
        }
    }

    private static void tokens() {
        E.edge(0, "A TEXT of at most 600 bytes tells it", () -> {
            good(RACE + " ".repeat(600 - RACE.length() - 8) + "limit 3;", 0);
            wrong(RACE + " ".repeat(600 - RACE.length() - 7) + "limit 3@", 1);
        });
        E.edge(0, "a WORD is a row of small letters", () -> {
            wrong("@arace 2 poll;", 1);
            wrong("@zrace 2 poll;", 1);
            wrong("@racea 2 poll;", 1);
            wrong("@racez 2 poll;", 1);
            wrong("race 2 poll@`;", 1);
            wrong("race 2 poll@{;", 1);
            wrong("@Race 2 poll;", 1);
            wrong("@pace 2 poll;", 1);
            wrong("@rac 2 poll;", 1);
            wrong("@racf 2 poll;", 1);
            wrong("race 2 @moll;", 1);
            wrong("race 2 @polm;", 1);
            wrong("race 2 poll@L;", 1);
        });
        E.edge(0, "a NUMBER a row of figures (it counts as what it is, 007 as 7)", () -> {
            DrawnBallots x = Feeder.made("race " + "0".repeat(500) + "3 poll;limit 007;factor 109;most 90;");
            E.due("500 noughts and 3", () -> x.race(0, 0), 3);
            E.due("007", () -> x.count(2), 7);
            E.due("109", () -> x.count(3), 109);
            E.due("90", () -> x.count(4), 90);
            wrong("race @4294967298 poll;", 2);
            wrong("race @18446744073709551618 poll;", 2);
            wrong("race @" + "9".repeat(400) + " poll;", 2);
            wrong("race @1" + "0".repeat(400) + "2 poll;", 2);
            wrong(RACE + "seed @1000000000;", 2);
            wrong("race 2@/ poll;", 1);
            wrong("race 2@: poll;", 1);
        });
        E.edge(0, "any other byte but blanks (32, 10) is one by itself", EdgesOfTextsTest::eachByte);
        E.edge(0, "blanks stand where one likes, not in WORDS, NUMBERS", () -> {
            good("race2poll;ballots3 1;", 3);
            good("\n  race\n2 \n poll ;\n\n ballots 3\n1 \n; \n", 3);
            wrong("@ra ce 2 poll;", 1);
            wrong("race 2 @po\nll;", 1);
            wrong(RACE + "limit 1 @0;", 1);
            wrong(RACE + "limit 1\n@0;", 1);
        });
    }

    /** What each of the 256 bytes is behind a text, behind a WORD, behind a NUMBER. */
    private static void eachByte() {
        for (int b = 0; b < 256; b++) {
            char sign = (char) b;
            boolean isBlank = b == 32 || b == 10;
            boolean isFigure = b >= '0' && b <= '9';
            boolean isLetter = b >= 'a' && b <= 'z';
            byteAt(b, RACE + sign, isBlank ? -1 : 12, 1);
            byteAt(b, "race" + sign + "3 poll;", isBlank || b == '0' ? -1 : isLetter ? 0 : 4, isFigure ? 2 : 1);
            // Where the byte is ; itself, only the one behind it can't stand there.
            byteAt(b, RACE + "limit 7" + sign + ";", isBlank || isFigure ? -1 : b == ';' ? 20 : 19, 1);
        }
    }

    private static void byteAt(int b, String text, int place, int fault) {
        DrawnBallots x = new DrawnBallots();
        E.due("byte " + b + " in '" + text + "'", Feeder.election(x, text), place < 0 ? 0 : -10 - fault);
        E.due("place of byte " + b + " in '" + text + "'", x.fault(), place);
    }

    private static void grammar() {
        E.edge(0, "TEXT: RACE RACE* LINE*", () -> {
            wrong("@", 1);
            wrong(" \n @", 1);
            wrong("@ballots 3 0;", 1);
            wrong("@limit 3;", 1);
            good(RACE, 0);
            good(RACE + "limit 3;", 0);
            wrong(RACE + "limit 3;@" + RACE, 1);
            wrong(RACE + "@;", 1);
        });
        E.edge(0, "RACE: 'race' NUMBER ('compare' | 'poll') ';'", () -> {
            wrong("race@", 1);
            wrong("race @poll;", 1);
            wrong("race 2@", 1);
            wrong("race 2 poll@", 1);
            wrong("race 2 poll @race 2 poll;", 1);
            wrong("race 2 @2 poll;", 1);
        });
        E.edge(0, "CHOICE: NUMBER (a CANDIDATE) | 'blank' | 'off' (the RACE isn't on it)", () -> {
            good("race 3 poll;ballots 3 0;", 3);
            good("race 3 poll;ballots 3 2;", 3);
            wrong("race 3 poll;ballots 3 @3;", 2);
            wrong("race 3 poll;race 2 poll;ballots 3 2 @2;", 2);
            wrong("race 3 poll;ballots 3 @-1;", 1);
            wrong("race 3 poll;ballots 3 @blanks;", 1);
            wrong("race 3 poll;ballots 3 @of;", 1);
            wrong("race 3 poll;ballots 3 @of f;", 1);
        });
    }

    private static void lines() {
        E.edge(0, "(of a BALLOT told ahead what the PAPER shows for a RACE)", () -> {
            wrong(RACE + "paper @0 0 0;", 2);
            wrong(RACE + "paper @0 0 0;ballots 3 0;", 2);
            wrong(RACE + "ballots 3 0;paper @3 0 1;", 2);
            wrong(RACE + "ballots 3 0;paper @3 0 1;ballots 1 0;", 2);
            wrong(RACE + "ballots 3 0;paper 2 @1 1;", 2);
            wrong(THREE_RACES + "ballots 3 0 0 0;paper 2 @3 1;", 2);
            wrong(RACE + "ballots 3 0;paper 2 0 @2;", 2);
            wrong(RACE + "ballots 3 0;paper 2 0 @;", 1);
            wrong(RACE + "ballots 3 0;paper 2 0 1 @1;", 1);
            DrawnBallots x = Feeder.made(THREE_RACES + "ballots 3 0 0 0;paper 0 0 1;paper 2 2 3;paper 1 1 off;paper 1 2 blank;");
            int[][] papers = {{1, 0, 0}, {0, -2, -1}, {0, 0, 3}};
            for (int ballot = 0; ballot < 3; ballot++) {
                for (int race = 0; race < 3; race++) {
                    E.due("paper of " + ballot + " for " + race, x.ballot(ballot, race, 1), papers[ballot][race]);
                    E.due("recorded on " + ballot + " for " + race, x.ballot(ballot, race, 0), 0);
                }
            }
            DrawnBallots all = Feeder.made(MOST_BUT_TWO + "ballots 2 0;paper 199 0 1;");
            E.due("the greatest BALLOT", () -> all.ballot(199, 0, 1), 1);
            wrong(MOST_BUT_TWO + "ballots 2 0;paper @200 0 1;", 2);
        });
        E.edge(0, "| 'limit' NUMBER ';' | 'factor' NUMBER ';' | 'most' NUMBER ';' | 'seed' NUMBER ';'", () -> {
            for (String word : new String[] {"limit", "factor", "most", "seed"}) {
                wrong(RACE + word + "@", 1);
                wrong(RACE + word + " @;", 1);
                wrong(RACE + word + " @blank;", 1);
                wrong(RACE + word + " 200@", 1);
                wrong(RACE + word + " 200 @200;", 1);
                wrong(RACE + "@" + word + "s 200;", 1);
            }
        });
    }

    private static void faults() {
        E.edge(0, "the text is gone through from its first byte on, TOKEN by TOKEN; at the first TOKEN", () -> {
            wrong("race @9 pall;ballots 100 7", 2);
            wrong("race 2 @pall;ballots 100 7", 1);
            wrong(RACE + "ballots @100 7", 2);
            wrong(RACE + "ballots 99 @7", 2);
            wrong(THREE_RACES + "@race 9 pall", 3);
        });
        E.edge(0, "(the first one of this list)", () -> {
            wrong(MOST_BUT_TWO + "ballots @100 0;", 2);
            wrong(MOST_BUT_TWO + "ballots 2 0;ballots @0 0;", 2);
            wrong(THREE_RACES + "limit 3;@race 2 poll;", 1);
            wrong(THREE_RACES + "ballots @race", 1);
            wrong("race 2 @9;", 1);
        });
        E.edge(0, "its place the TOKEN's first byte", () -> {
            wrong("race @0005 poll;", 2);
            wrong("race\n \n@500 poll;", 2);
            wrong("race 2  @pollute;", 1);
            wrong(MOST_BUT_TWO + "ballots @03 0;", 3);
            wrong(THREE_RACES + "  @race 2 poll;", 3);
        });
        E.edge(0, "1 it can't stand there (the end, where the text can't end: its length)", () -> {
            String text = "race 2 poll;limit 7;";
            // At which lengths the text may end (-1), or else where its first FAULT is.
            int[] places = {0, 0, 0, 0, 4, 5, 6, 7, 7, 7, 7, 11, -1, 12, 12, 12, 12, 17, 18, 19, -1};
            for (int n = 0; n <= text.length(); n++) {
                DrawnBallots x = new DrawnBallots();
                Feeder.feed(x, text);
                E.due("the first " + n, x.election(n), places[n] < 0 ? 0 : -11);
                E.due("fault of the first " + n, x.fault(), places[n]);
            }
            wrong("race 2 poll \n @", 1);
        });
        E.edge(0, "2 a NUMBER that isn't as told", () -> {
            wrong("race @5 poll;", 2);
            wrong(RACE + "ballots 1 @2;", 2);
            wrong(RACE + "limit @999;", 2);
        });
        E.edge(0, "3 the word of a 4th RACE", () -> {
            good(THREE_RACES, 0);
            wrong(THREE_RACES + "@race 2 poll;", 3);
            wrong(THREE_RACES + "@race", 3);
            wrong(THREE_RACES + "@races", 1);
        });
    }

    private static void questions() {
        E.edge(0, "A QUESTION is a TEXT of at most 200 bytes", () -> {
            answers("many 1=" + " ".repeat(192) + "1", 10);
            asked("many 1=" + " ".repeat(193) + "@", 1);
            asked("many 1=" + " ".repeat(192) + "@;", 1);
        });
        E.edge(0, "('many' | 'first' | 'drawn') TEST", () -> {
            asked("@", 1);
            asked("  @", 1);
            asked("@1=1", 1);
            asked("@man 1=1", 1);
            asked("@manya 1=1", 1);
            asked("many@", 1);
            asked("many @many", 1);
            asked("many 1=1 @1", 1);
            asked("many 1=1@;", 1);
        });
        E.edge(0, "TEST: BOTH ('or' BOTH)*. BOTH: FACT ('and' FACT)*", () -> {
            asked("many 1=1 or@", 1);
            asked("many 1=1 or @or 1=1", 1);
            asked("many 1=1 and@", 1);
            asked("many 1=1 and @and 1=1", 1);
            asked("many @and 1=1", 1);
            answers("many number<1 and number<2 or number>8 and number>7", 2);
            answers("many number<9 and number>7 or number<9 and number>8", 1);
        });
        E.edge(0, "FACT: 'not' FACT | '{' TEST '}' | VALUE ('<' | '=' | '>') VALUE", () -> {
            answers("many 1<2", 10);
            answers("many 1<1", 0);
            answers("many 2<1", 0);
            answers("many 1=2", 0);
            answers("many 1=1", 10);
            answers("many 2=1", 0);
            answers("many 1>2", 0);
            answers("many 1>1", 0);
            answers("many 2>1", 10);
            asked("many 1@", 1);
            asked("many 1 @1", 1);
            asked("many 1=@", 1);
            asked("many 1=1@=1", 1);
            asked("many 1<@=1", 1);
            asked("many not@", 1);
            asked("many {@}", 1);
            asked("many {1=1@", 1);
            asked("many 1=1@}", 1);
            asked("many {1=1}@}", 1);
        });
        E.edge(0, "VALUE: NUMBER (0 to 9999)", () -> {
            answers("many 0=00", 10);
            answers("many 9999=09999", 10);
            answers("many 9999>9998", 10);
            asked("many @10000=1", 2);
            asked("many 1=@10000", 2);
            asked("many @4294967296=0", 2);
            asked("many @18446744073709551616=0", 2);
            asked("many @-1=0", 1);
        });
        E.edge(0, "'blank' (-1) | 'off' (-2)", () -> {
            String text = "race 2 compare;ballots 2 0;ballots 1 blank;ballots 1 1;paper 2 0 0;paper 3 0 0;";
            String[] asked = {"first mistake 0=blank", "first mistake 0=off", "many blank<0", "many off<blank", "many blank<off"};
            int[] due = {2, 3, 4, 4, 0};
            for (int k = 0; k < asked.length; k++) {
                E.due(asked[k], Feeder.ask(Feeder.made(text), asked[k]), due[k]);
            }
            answers("many record 0=blank", 3);
            answers("many record 1=off", 3);
        });
        E.edge(0, "of a BALLOT: 'number', 'times' (how often it was drawn)", () -> {
            answers("many number<0", 0);
            answers("first number=0", 0);
            answers("first number=9", 9);
            answers("many number>9", 0);
            answers("many times=0", 5);
            answers("first times=3", 4);
            answers("many times>3", 0);
            asked("many number @0=1", 1);
        });
        E.edge(0, "with a RACE behind it (a NUMBER): 'record', 'paper', 'mistake'", () -> {
            for (String word : new String[] {"record", "paper", "mistake"}) {
                asked("many " + word + "@", 1);
                asked("many " + word + " @=1", 1);
                asked("many " + word + " @blank=1", 1);
                asked("many " + word + " @2=1", 2);
                asked("many 1<" + word + " @2", 2);
                DrawnBallots none = new DrawnBallots();
                E.due(word + " 0 without RACES", Feeder.ask(none, "many " + word + " 0=1"), -1000000002);
                DrawnBallots three = Feeder.made(THREE_RACES + "ballots 3 0 0 0;");
                E.due(word + " 2 of three RACES", Feeder.ask(three, "many " + word + " 2=0"), 3);
                E.due(word + " 3 of three RACES", Feeder.ask(three, "many " + word + " 3=0"), -1000000002);
            }
            answers("first record 1=0", 7);
            answers("many record 0=0", 4);
            answers("many paper 0=0", 3);
            answers("many record 1=0", 3);
            answers("many paper 1=0", 2);
            answers("first paper 0=1", 2);
            answers("first mistake 0=2", 2);
            answers("first mistake 1<0", 8);
        });
        E.edge(0, "For how many BALLOTS it holds; the first one (NONE); 'drawn': how many draws drew such a one", () -> {
            answers("many number=10", 0);
            answers("first 1=1", 0);
            answers("first number=10", -1);
            answers("drawn 1=1", 7);
            answers("drawn times=0", 0);
            answers("drawn number=4", 3);
            E.due("many without BALLOTS", Feeder.ask(new DrawnBallots(), "many 1=1"), 0);
            E.due("first without BALLOTS", Feeder.ask(new DrawnBallots(), "first 1=1"), -1);
            E.due("drawn without BALLOTS", Feeder.ask(new DrawnBallots(), "drawn 1=1"), 0);
            DrawnBallots all = Feeder.made(MOST_BUT_TWO + "ballots 2 1;");
            E.due("all of 200", Feeder.ask(all, "many 1=1"), 200);
            E.due("the last of 200", Feeder.ask(all, "first number=199"), 199);
        });
    }

    private static void openOnes() {
        E.edge(0, "(3: the 7th of 'not', '{' that are open at once", () -> {
            answers("many not not not not not not 1=1", 10);
            asked("many not not not not not not @not 1=1", 3);
            answers("many {{{{{{1=1}}}}}}", 10);
            asked("many {{{{{{@{1=1}}}}}}}", 3);
            asked("many {{{{{{@not 1=1}}}}}}", 3);
            asked("many not not not not not not @{1=1}", 3);
            answers("many not{not{not{1=1}}}", 0);
            asked("many not{not{not{@not 1=1}}}", 3);
            asked("many not{not{not{@{1=1}}}}", 3);
            answers("many {{{{{{1=1}}}}} and {{{{{1=1}}}}}}", 10);
            asked("many {{{{{{1=1}}}}} and {{{{{@{1=1}}}}}}}", 3);
            answers("many {{{{{{1=1}}}}}} or {{{{{{1=2}}}}}}", 10);
            asked("many {{{{{{1=1 @{", 1);
        });
        E.edge(0, "'not' till its FACT ends)", () -> {
            answers("many not not not not not not 1=1 and not not not not not not 1=1", 10);
            answers("many {not not not not not 1=1 or not not not not not 2=1}", 10);
            asked("many {not not not not not 1=1 or not not not not not @not 2=1}", 3);
            answers("many not {{{{{1=2}}}}} and {{{{{{1=1}}}}}}", 10);
            asked("many not {{{{{1=1} or {@{1=1}}}}}}", 3);
            asked("many not {{{{{@{1=1}}}}}}", 3);
        });
    }

    private static void feed() {
        E.edge(2, "Twenty bytes come behind the tape, of each number the highest first: how many it has", () -> {
            DrawnBallots x = new DrawnBallots();
            // "race 2 poll;ballots 9 0;" and behind it the bytes 128, 255, 0, 127.
            E.due("the first twenty", () -> x.feed(0x72616365, 0x20322070, 0x6f6c6c3b, 0x62616c6c, 0x6f747320), 20);
            E.due("the next twenty", () -> x.feed(0x3920303b, 0x80ff007f, 0x20202020, 0x20202020, 0x20202020), 40);
            E.due("the tape", () -> x.count(11), 40);
            E.due("the first 24", () -> x.election(24), 9);
            for (int k = 0; k < 20; k++) {
                DrawnBallots y = Feeder.made(RACE);
                Feeder.feed(y, "many 1=1            ");
                int[] five = Feeder.numbers(" ".repeat(k) + (char) 128 + " ".repeat(19 - k), 0);
                E.due("a byte 128 at " + k, () -> y.feed(five[0], five[1], five[2], five[3], five[4]), 40);
                int upToIt = 21 + k;
                E.due("a question up to " + k, () -> y.ask(upToIt), -1000000001);
                E.due("its place", y::fault, 20 + k);
            }
        });
        E.edge(2, "NONE, and none come, if it would have more than 600", () -> {
            DrawnBallots x = new DrawnBallots();
            String text = RACE + " ".repeat(580) + "limit 3;";
            for (int from = 0; from < 600; from += 20) {
                int[] five = Feeder.numbers(text, from);
                E.due("feed at " + from, x.feed(five[0], five[1], five[2], five[3], five[4]), from + 20);
            }
            for (int k = 0; k < 3; k++) {
                E.due("feed of a full tape", () -> x.feed(-1, -1, -1, -1, -1), -1);
                E.due("its bytes", () -> x.count(11), 600);
            }
            E.due("what the full tape tells", () -> x.election(600), 0);
            E.due("by its last bytes", () -> x.count(2), 3);
            E.due("feed of an empty tape", () -> x.feed(-1, -1, -1, -1, -1), 20);
            E.due("its bytes", () -> x.count(11), 20);
        });
    }

    /** As what is seen of a Scene whose question was at fault at its very start: nothing but that and the tape. */
    private static String atFaultAtOnce() {
        DrawnBallots x = Scene.withoutTape();
        x.ask(0);
        return Scene.told(x);
    }

    private static void election() {
        E.edge(3, "The tape's first n bytes (it is empty then, whatever comes of it) are an ELECTION", () -> {
            DrawnBallots x = new DrawnBallots();
            E.due("nothing of an empty tape", () -> x.election(0), -11);
            Feeder.feed(x, RACE + "ballots 3 0;limit 3;");
            E.due("24 bytes of 60", () -> x.election(24), 3);
            E.due("the limit stands behind these", () -> x.count(2), 50);
            E.due("the tape is empty", () -> x.count(11), 0);
            E.illegal("the rest is gone", () -> x.election(1));
            Feeder.feed(x, RACE);
            E.due("11 bytes of 20", () -> x.election(11), -11);
            E.due("the tape is empty behind a FAULT", () -> x.count(11), 0);
            Feeder.feed(x, RACE);
            E.due("nothing of 20", () -> x.election(0), -11);
            E.due("the tape is empty behind nothing", () -> x.count(11), 0);
            Feeder.feed(x, RACE);
            E.due("all of 20", () -> x.election(20), 0);
        });
        E.edge(3, "(nothing is drawn, no ACTS are kept then): how many BALLOTS", () -> {
            DrawnBallots x = Scene.made();
            E.due("election", Feeder.election(x, "       " + RACE + "ballots 1 1;"), -11);
            E.due("draws are left behind a FAULT", () -> x.count(5), 3);
            E.due("another election", Feeder.election(x, RACE + "ballots 1 1;"), 1);
            long[] counts = {1, 1, 50, 110, 100, 0, 0, 0, 0, 0, 0, 0};
            for (int what = 0; what < counts.length; what++) {
                E.due("count " + what, x.count(what), counts[what]);
            }
            E.none("no draw counts", () -> x.drawn(0));
            E.due("the BALLOT wasn't drawn", () -> x.times(0), 0);
            E.due("RISK", () -> x.risk(0), 1000000000);
            E.none("no RISK behind a draw", () -> x.riskAt(0, 1));
            E.due("no ACTS", x::undo, -1);
            x.draw(1);
            for (int k = 0; k < 3; k++) {
                E.due("one BALLOT anew", Feeder.election(x, RACE + "ballots 1 1;"), 1);
                E.due("nothing is drawn of it", x.count(5), 0);
            }
            E.due("no BALLOTS", Feeder.election(x, RACE), 0);
            E.due("200 BALLOTS", Feeder.election(x, MOST_BUT_TWO + "ballots 2 1;"), 200);
        });
        E.edge(3, "-10 less the FAULT (nothing else changes)", () -> {
            E.due("FAULT 1", Feeder.election(new DrawnBallots(), "race"), -11);
            E.due("FAULT 2", Feeder.election(new DrawnBallots(), "race 5"), -12);
            E.due("FAULT 3", Feeder.election(new DrawnBallots(), THREE_RACES + "race"), -13);
            DrawnBallots x = Scene.made();
            // The tape's question is no election: its first TOKEN is at fault.
            E.due("no election", () -> x.election(20), -11);
            E.due("all but the FAULT and the tape", Scene.told(x), atFaultAtOnce());
            String[] late = {"race 4 poll;race 2 compare;race 2 poll;ballots 9 3 1 0;paper 1 1 0;limit 7;factor 200;most 3;seed 5;?",
                "race 4 poll;ballots 9 3;ballots 1 5;", "race 2 poll;race 2 poll;race 2 poll;race 2 poll;"};
            int[] places = {late[0].length() - 1, late[1].length() - 2, 36};
            for (int k = 0; k < late.length; k++) {
                DrawnBallots y = Scene.withoutTape();
                DrawnBallots z = Scene.withoutTape();
                E.due("election '" + late[k] + "'", Feeder.election(y, late[k]), k == 0 ? -11 : k == 1 ? -12 : -13);
                E.due("an ask that's at fault there", Feeder.ask(z, " ".repeat(places[k]) + ";") < 0 ? 1 : 0, 1);
                E.due("all but the FAULT behind '" + late[k] + "'", Scene.told(y), Scene.told(z));
            }
        });
        E.edge(3, "IllegalArgumentException: the tape has not so many, n below 0 (nothing changes)", () -> {
            E.refusedIllegalBeside("election", 0, Scene.TAPE, DrawnBallots::election);
            DrawnBallots x = new DrawnBallots();
            E.illegal("one byte of an empty tape", () -> x.election(1));
            E.illegal("less than none of an empty tape", () -> x.election(-1));
            E.due("no FAULT by these", x::fault, -1);
        });
    }

    private static void fault() {
        E.edge(4, "The place of the latest FAULT of election(), ask()", () -> {
            DrawnBallots x = new DrawnBallots();
            Feeder.election(x, "race 2 pall;");
            E.due("of election", x::fault, 7);
            Feeder.ask(x, "many 1=1;");
            E.due("of ask", x::fault, 8);
            Feeder.election(x, "");
            E.due("of an empty text", x::fault, 0);
            Feeder.ask(x, "many" + " ".repeat(196));
            E.due("at the end of 200 bytes", x::fault, 200);
            Feeder.election(x, RACE + " ".repeat(583) + "limit");
            E.due("at the end of 600 bytes", x::fault, 600);
        });
        E.edge(4, "(the latest of these that was no IllegalArgumentException)", () -> {
            DrawnBallots x = Feeder.made(RACE);
            E.illegal("election behind none", () -> x.election(1));
            E.illegal("ask behind none", () -> x.ask(1));
            E.due("none is left", x::fault, -1);
            Feeder.ask(x, "many");
            E.illegal("election behind a FAULT", () -> x.election(-1));
            E.due("the FAULT is left", x::fault, 4);
            E.illegal("ask behind a FAULT", () -> x.ask(-1));
            E.due("the FAULT is left", x::fault, 4);
            E.illegal("draw behind a FAULT", () -> x.draw(0));
            E.due("the FAULT is left", x::fault, 4);
        });
        E.edge(4, "NONE: it had none, or there was none", () -> {
            DrawnBallots x = new DrawnBallots();
            E.due("there was none", x::fault, -1);
            Feeder.election(x, "race");
            Feeder.election(x, RACE);
            E.due("the latest election had none", x::fault, -1);
            Feeder.ask(x, "many");
            Feeder.ask(x, "many 1=1");
            E.due("the latest question had none", x::fault, -1);
            Feeder.election(x, "race");
            Feeder.ask(x, "many 1=1");
            E.due("the question behind the election had none", x::fault, -1);
            Feeder.ask(x, "many");
            Feeder.election(x, RACE);
            E.due("the election behind the question had none", x::fault, -1);
        });
    }

    private static void ask() {
        E.edge(32, "The tape's first n bytes (it is empty then, whatever comes of it) are a QUESTION: its answer", () -> {
            DrawnBallots x = some();
            E.due("nothing of an empty tape", () -> x.ask(0), -1000000001);
            Feeder.feed(x, "many 1=1 and 1=2");
            E.due("8 bytes of 20", () -> x.ask(8), 10);
            E.due("the tape is empty", () -> x.count(11), 0);
            E.illegal("the rest is gone", () -> x.ask(1));
            Feeder.feed(x, "many 1=1 and 1=2");
            E.due("nothing of 20", () -> x.ask(0), -1000000001);
            E.due("the tape is empty behind a FAULT", () -> x.count(11), 0);
            Feeder.feed(x, "many 1=1 and 1=2");
            E.due("all of 20", () -> x.ask(20), 0);
            Feeder.feed(x, "many 1=1" + " ".repeat(592));
            E.due("200 of 600", () -> x.ask(200), 10);
            E.due("the tape is empty behind 200 of 600", () -> x.count(11), 0);
            for (int k = 0; k < 60; k++) {
                E.due("first, asked again " + k, Feeder.ask(x, "first number=3 or number=" + k), Math.min(k, 3));
                E.due("many, asked again " + k, Feeder.ask(x, "many number=3 or number=" + k), k == 3 || k > 9 ? 1 : 2);
            }
            DrawnBallots y = Scene.made();
            E.due("the Scene's question", () -> y.ask(14), 2);
            DrawnBallots z = Scene.withoutTape();
            Feeder.ask(z, "many 1=1");
            E.due("nothing else changes", Scene.told(y), Scene.told(z));
        });
        E.edge(32, "-1000000000 less the FAULT", () -> {
            E.due("FAULT 1", Feeder.ask(some(), "many"), -1000000001);
            E.due("FAULT 2", Feeder.ask(some(), "many 10000"), -1000000002);
            E.due("FAULT 3", Feeder.ask(some(), "many {{{{{{{"), -1000000003);
            DrawnBallots x = Scene.made();
            E.due("a FAULT at once", () -> x.ask(0), -1000000001);
            E.due("nothing else changes", Scene.told(x), atFaultAtOnce());
        });
        E.edge(32, "IllegalArgumentException: the tape has not so many, n below 0, above 200 (nothing changes)", () -> {
            E.refusedIllegalBeside("ask", 0, Scene.TAPE, DrawnBallots::ask);
            for (int n : new int[] {-1, 201, 220, 221, Integer.MIN_VALUE, Integer.MAX_VALUE}) {
                DrawnBallots x = some();
                Feeder.feed(x, "many 1=1" + " ".repeat(212));
                E.illegal("ask(" + n + ") of 220", () -> x.ask(n));
                E.due("the tape is left", () -> x.count(11), 220);
                E.due("its question, too", () -> x.ask(200), 10);
            }
            E.illegal("one byte of an empty tape", () -> new DrawnBallots().ask(1));
        });
    }
}
