/** What the tests share: telling a text, comparing answers, ending with the right code. */
final class Check {
    private static int wrong = 0;
    private static int asked = 0;
    private static String sentence = "";
    private static int askedBefore = 0;

    private Check() {
    }

    /** What is asked from now on tests this sentence of the document; nothing asked is a fault of the test. */
    static void sentence(String words) {
        endSentence();
        sentence = words;
        askedBefore = asked;
    }

    private static void endSentence() {
        if (!sentence.isEmpty() && asked == askedBefore) {
            wrong++;
            System.out.println("nothing was asked of: " + sentence);
        }
    }

    static void due(String call, long got, long want) {
        asked++;
        if (got != want) {
            wrong++;
            System.out.println((sentence.isEmpty() ? "" : "[" + sentence + "] ") + call + " answered " + got + ", due is " + want);
        }
    }

    static void due(String call, boolean got, boolean want) {
        due(call, got ? 1 : 0, want ? 1 : 0);
    }

    /** A new object that has been told a text without a fault. */
    static SandHours told(String text) {
        SandHours x = new SandHours();
        int lines = 0;
        for (int k = 0; k < text.length(); k++) {
            lines += text.charAt(k) == ';' ? 1 : 0;
        }
        due("text of " + text, tell(x, text), lines);
        return x;
    }

    /** Feeds a text, blanks behind it, and reads it. */
    static int tell(SandHours x, String text) {
        feed(x, text);
        return x.text(text.length());
    }

    static int feed(SandHours x, String text) {
        int size = 0;
        for (int at = 0; at < text.length(); at += 20) {
            size = x.feed(four(text, at), four(text, at + 4), four(text, at + 8), four(text, at + 12), four(text, at + 16));
        }
        return size;
    }

    static int four(String text, int at) {
        int number = 0;
        for (int k = at; k < at + 4; k++) {
            number = number << 8 | (k < text.length() ? text.charAt(k) & 255 : ' ');
        }
        return number;
    }

    static int letters(String name) {
        int number = 0;
        for (int k = 0; k < 6; k++) {
            number = number << 5 | (k < name.length() ? name.charAt(k) - 'a' + 1 : 0);
        }
        return number;
    }

    /** A text that has just this fault at this place. */
    static void faulty(String text, int fault, int place) {
        SandHours x = new SandHours();
        due("text of " + text, tell(x, text), -1);
        due("fault(0) of " + text, x.fault(0), fault);
        due("fault(1) of " + text, x.fault(1), place);
    }

    /** 0: it answers; 1: IndexOutOfBoundsException; 2: NoSuchElementException. */
    static int thrown(SandHours x, int glass, int what) {
        try {
            x.glass(glass, what);
            return 0;
        } catch (IndexOutOfBoundsException e) {
            return 1;
        } catch (java.util.NoSuchElementException e) {
            return 2;
        }
    }

    /** Nearly all that can be asked without a change, in one text. */
    static String picture(SandHours x) {
        StringBuilder p = new StringBuilder("counts");
        for (int what = 0; what <= 13; what++) {
            p.append(' ').append(x.count(what));
        }
        for (int g = 0; g < x.count(1); g++) {
            p.append("\nglass ").append(g);
            for (int what = 0; what <= 7; what++) {
                p.append(' ').append(x.glass(g, what));
            }
            for (int what = 0; what <= 2; what++) {
                p.append(' ').append(x.law(what, g));
            }
            p.append(' ').append(x.ahead(13, 0, g)).append(' ').append(x.ahead(13, 1, g)).append(' ').append(x.necks(g));
        }
        for (int m = 0; m < x.count(0); m++) {
            p.append("\nman ").append(x.man(m, 0)).append(' ').append(x.man(m, 1)).append(' ').append(x.man(m, 2));
        }
        for (int k = 0; k < x.count(2); k++) {
            p.append("\npayment ").append(x.payment(k, 0)).append(x.payment(k, 1)).append(' ').append(x.payment(k, 2))
                    .append(' ').append(x.payment(k, 3)).append(' ').append(x.payment(k, 4));
        }
        return p.append("\nothers ").append(x.apart()).append(' ').append(x.ahead(99, 2, 0)).append(' ')
                .append(x.ahead(99, 4, 0)).append(' ').append(x.toCome()).append(' ').append(x.wets()).toString();
    }

    static void same(String what, String got, String want) {
        due(what, got.equals(want), true);
        if (!got.equals(want)) {
            System.out.println(got + "\n-- but it was\n" + want);
        }
    }

    /**
     * Eight glasses a to h of p, NECK 9, COARSE 1. Glass 0 has 99 above and below, glass 1 has 999 above and 99
     * below, glasses 2 to 4 have none, 5 has 90 below, 6 and 7 have 99 below.
     */
    static SandHours brimful(String more) {
        StringBuilder t = new StringBuilder("man p;");
        for (char name = 'a'; name <= 'h'; name++) {
            t.append("glass ").append(name).append(" p 99 99 9 1;");
        }
        SandHours x = told(t + more);
        for (int g = 2; g <= 7; g++) {
            x.pour(g, 1, 99);
            x.flip(g);
        }
        for (int g = 2; g <= 4; g++) {
            x.pour(g, 1, 99);
        }
        x.pour(5, 1, 9);
        due("brimful", x.glass(1, 1), 999);
        return x;
    }

    static void end() {
        endSentence();
        System.out.println(asked + " answers, " + wrong + " wrong");
        if (wrong != 0 || asked == 0) {
            System.exit(1);
        }
    }
}
