/** The texts of elections and questions: what stands where, and the first fault with its place. */
public final class TextsTest {
    private static final Check CHECK = new Check();
    private static final String RACE = "race 2 poll;";

    public static void main(String[] args) {
        goodElections();
        elections();
        tokens();
        ballots();
        lines();
        questions();
        CHECK.end();
    }

    /** A text whose fault stands where the sign @ does (it is taken out). */
    private static void wrong(String marked, int fault) {
        int place = marked.indexOf('@');
        String text = marked.replace("@", "");
        DrawnBallots x = new DrawnBallots();
        CHECK.due("election '" + text + "'", Feeder.election(x, text), -10 - fault);
        CHECK.due("fault of '" + text + "'", x.fault(), place);
        CHECK.due("races behind '" + text + "'", x.count(0), 0);
    }

    private static void good(String text, int ballots) {
        DrawnBallots x = new DrawnBallots();
        CHECK.due("election '" + text + "'", Feeder.election(x, text), ballots);
        CHECK.due("fault of '" + text + "'", x.fault(), -1);
    }

    private static void asked(String marked, int fault) {
        int place = marked.indexOf('@');
        String text = marked.replace("@", "");
        DrawnBallots x = Feeder.made("race 2 poll;race 2 poll;ballots 3 0 1;");
        CHECK.due("ask '" + text + "'", Feeder.ask(x, text), -1000000000 - fault);
        CHECK.due("fault of '" + text + "'", x.fault(), place);
    }

    private static void goodElections() {
        good("race2poll;ballots3 1;", 3);
        good("race 2\npoll\n;\n\n ballots 3 1 ; ", 3);
        good("race 0002 compare ; ballots 00000000000000000000000099 blank;", 99);
        good("race 2 poll;race 3 poll;race 4 poll;ballots 1 1 2 3;ballots 1 blank off blank;", 2);
        good("race 2 poll;seed 0;seed 999999;limit 1;limit 500;factor 101;factor 300;most 1;most 300;", 0);
        good("race 2 poll;limit 3;ballots 2 0;most 4;ballots 2 1;paper 3 0 off;paper 3 0 1;paper 0 0 blank;", 4);
        good("race 2 poll;ballots 99 0;ballots 99 0;ballots 2 0;", 200);
        DrawnBallots x = Feeder.made("race 2 poll;limit 3;limit 4;factor 200;most 7;ballots 1 1;paper 0 0 0;paper 0 0 off;");
        CHECK.due("the latest limit", x.count(2), 4);
        CHECK.due("factor", x.count(3), 200);
        CHECK.due("most", x.count(4), 7);
        CHECK.due("the latest paper", x.ballot(0, 0, 1), -2);
    }

    private static void elections() {
        wrong("@", 1);
        wrong("   @", 1);
        wrong("@ballots 3 0;", 1);
        wrong("@2", 1);
        wrong("@;", 1);
        wrong("race@", 1);
        wrong("race @;", 1);
        wrong("race @poll;", 1);
        wrong("race @1 poll;", 2);
        wrong("race @5 poll;", 2);
        wrong("race @0 poll;", 2);
        wrong("race 2 @;", 1);
        wrong("race 2 @2;", 1);
        wrong("race 2 @polls;", 1);
        wrong("race 2 @pol;", 1);
        wrong("race 2 @pollz;", 1);
        wrong("race 2 @apoll;", 1);
        wrong("race 2 @moll;", 1);
        wrong("@pace 2 poll;", 1);
        wrong("race 2 poll@", 1);
        wrong("race 2 poll  @", 1);
        wrong("race 2 poll @race 2 poll;", 1);
        wrong(RACE + "@;", 1);
        wrong(RACE + RACE + RACE + " @" + RACE, 3);
        wrong(RACE + RACE + RACE + " @race", 3);
        wrong(RACE + "limit 3;@" + RACE, 1);
        wrong(RACE + RACE + RACE + "limit 3;@" + RACE, 1);
        wrong(RACE + "@races 2 poll;", 1);
        wrong(RACE + "@foo 3;", 1);
        wrong(RACE + "@3;", 1);
    }

    private static void tokens() {
        wrong("@Race 2 poll;", 1);
        wrong("race@\t2 poll;", 1);
        wrong("race@\r\n2 poll;", 1);
        wrong("race @-2 poll;", 1);
        wrong("race @\u00e92 poll;", 1);
        wrong("race @99999999999999999999999999999999999999999 poll;", 2);
        wrong("race @4294967298 poll;", 2);
        wrong("race 2@.0 poll;", 1);
        wrong("race 2 @2 poll;", 1);
        wrong(RACE + "ballots 1 0;@\u0000", 1);
        wrong(RACE + "ballots 1 0;@\u00ff", 1);
        // 600 bytes are read to their end.
        String full = RACE + " ".repeat(600 - RACE.length() - 8) + "limit 3;";
        good(full, 0);
        wrong(RACE + " ".repeat(600 - RACE.length() - 7) + "limit 3@", 1);
    }

    private static void ballots() {
        wrong(RACE + "ballots @;", 1);
        wrong(RACE + "ballots @blank;", 1);
        wrong(RACE + "ballots @0 0;", 2);
        wrong(RACE + "ballots @100 0;", 2);
        wrong(RACE + "ballots 3 @;", 1);
        wrong(RACE + "ballots 3 @2;", 2);
        wrong(RACE + "ballots 3 0 @0;", 1);
        wrong(RACE + "ballots 3 0 @blank;", 1);
        wrong(RACE + "ballots 3 0@", 1);
        wrong(RACE + "ballots 3 @poll;", 1);
        wrong(RACE + RACE + "ballots 3 0 @;", 1);
        wrong(RACE + "race 3 poll;ballots 3 1 2;ballots 3 @2 2;", 2);
        wrong(RACE + "ballots 99 0;ballots 99 0;ballots @3 0;", 3);
        wrong(RACE + "ballots 99 0;ballots 99 0;ballots @100 0;", 2);
        wrong(RACE + "ballots 99 0;ballots 99 0;ballots 2 0;ballots @1", 3);
        wrong(RACE + "ballots 99 0;ballots 99 0;ballots 2 0;ballots @0", 2);
    }

    private static void lines() {
        wrong(RACE + "paper @0 0 0;", 2);
        wrong(RACE + "ballots 3 0;paper @3 0 0;", 2);
        wrong(RACE + "ballots 3 0;paper 2 @1 0;", 2);
        wrong(RACE + "ballots 3 0;paper 2 0 @2;", 2);
        wrong(RACE + "ballots 3 0;paper 2 0 @;", 1);
        wrong(RACE + "ballots 3 0;paper 2 0 0 @0;", 1);
        wrong(RACE + "ballots 3 0;paper @blank 0 0;", 1);
        wrong(RACE + "ballots 3 0;paper 2 @off 0;", 1);
        wrong(RACE + "limit @0;", 2);
        wrong(RACE + "limit @501;", 2);
        wrong(RACE + "limit @off;", 1);
        wrong(RACE + "limit 5@", 1);
        wrong(RACE + "factor @100;", 2);
        wrong(RACE + "factor @301;", 2);
        wrong(RACE + "most @0;", 2);
        wrong(RACE + "most @301;", 2);
        wrong(RACE + "seed @1000000;", 2);
        wrong(RACE + "seed @;", 1);
        wrong(RACE + "seed 3 @4;", 1);
        wrong(RACE + "seed 3;@:", 1);
    }

    private static void questions() {
        asked("@", 1);
        asked("@some 1=1", 1);
        asked("many@", 1);
        asked("many  @", 1);
        asked("many @=1", 1);
        asked("many 1@", 1);
        asked("many 1 @1", 1);
        asked("many 1=@", 1);
        asked("many 1=1@=1", 1);
        asked("many 1=1 @1", 1);
        asked("many 1=1 @not 1=1", 1);
        asked("many 1=1 and@", 1);
        asked("many 1=1 or @or 1=1", 1);
        asked("many 1<@>1", 1);
        asked("many {1=1@", 1);
        asked("many {1=1 @{", 1);
        asked("many 1=1@}", 1);
        asked("many {@}", 1);
        asked("many @many", 1);
        asked("many record@=1", 1);
        asked("many record @blank=1", 1);
        asked("many record @2=1", 2);
        asked("many 1=paper @2", 2);
        asked("many mistake @2=2", 2);
        asked("many mistake @99999999999=2", 2);
        asked("many @10000=1", 2);
        asked("many 1=@10000", 2);
        asked("many times @0=1", 1);
        asked("many not not not not not not @not 1=1", 3);
        asked("many {{{{{{@{1=1", 3);
        asked("many not{not{not{@not 1=1", 3);
        asked("many not{not{not{@{", 3);
        asked("many {{{{{{1=1}}}}}} and {{{{{{1=1}} or 1@}", 1);
        asked("many not not not not not not 1=1 and not not not not not not @not", 3);
        asked("many {not not not not not 1=1 and not not not not not @not 1=1}", 3);
        asked("many {1=1}@;", 1);
    }
}
