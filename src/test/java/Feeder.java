/** Brings texts onto the tape of a DrawnBallots. */
final class Feeder {
    private Feeder() {
    }

    /** Twenty bytes of a text from a place on, as five numbers; blanks behind its end. */
    static int[] numbers(String text, int from) {
        int[] five = new int[5];
        for (int i = 0; i < 20; i++) {
            int sign = from + i < text.length() ? text.charAt(from + i) & 255 : ' ';
            five[i / 4] = five[i / 4] << 8 | sign;
        }
        return five;
    }

    static void feed(DrawnBallots x, String text) {
        for (int from = 0; from < text.length(); from += 20) {
            int[] n = numbers(text, from);
            x.feed(n[0], n[1], n[2], n[3], n[4]);
        }
    }

    static int election(DrawnBallots x, String text) {
        feed(x, text);
        return x.election(text.length());
    }

    static int ask(DrawnBallots x, String text) {
        feed(x, text);
        return x.ask(text.length());
    }

    static DrawnBallots made(String text) {
        DrawnBallots x = new DrawnBallots();
        if (election(x, text) < 0) {
            throw new IllegalStateException("the test's own text has a fault at " + x.fault() + ": " + text);
        }
        return x;
    }

    static String said(DrawnBallots x) {
        StringBuilder text = new StringBuilder();
        int length = x.say();
        for (int i = 0; i < length; i++) {
            text.append((char) x.said(i));
        }
        return text.toString();
    }
}
