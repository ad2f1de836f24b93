/** What the tests share: telling a text, comparing answers, ending with the right code. */
final class Check {
    private static int wrong = 0;
    private static int asked = 0;

    private Check() {
    }

    static void due(String call, long got, long want) {
        asked++;
        if (got != want) {
            wrong++;
            System.out.println(call + " answered " + got + ", due is " + want);
        }
    }

    static void due(String call, boolean got, boolean want) {
        due(call, got ? 1 : 0, want ? 1 : 0);
    }

    /** A new object that has been told a text without a fault. */
    static SandHours told(String text) {
        SandHours x = new SandHours();
        int lines = 0;
        for (int k = 0; k < text.length(); k++) {
            lines += text.charAt(k) == ';' ? 1 : 0;
        }
        due("text of " + text, tell(x, text), lines);
        return x;
    }

    /** Feeds a text, blanks behind it, and reads it. */
    static int tell(SandHours x, String text) {
        feed(x, text);
        return x.text(text.length());
    }

    static int feed(SandHours x, String text) {
        int size = 0;
        for (int at = 0; at < text.length(); at += 20) {
            size = x.feed(four(text, at), four(text, at + 4), four(text, at + 8), four(text, at + 12), four(text, at + 16));
        }
        return size;
    }

    static int four(String text, int at) {
        int number = 0;
        for (int k = at; k < at + 4; k++) {
            number = number << 8 | (k < text.length() ? text.charAt(k) & 255 : ' ');
        }
        return number;
    }

    static int letters(String name) {
        int number = 0;
        for (int k = 0; k < 6; k++) {
            number = number << 5 | (k < name.length() ? name.charAt(k) - 'a' + 1 : 0);
        }
        return number;
    }

    /** A text that has just this fault at this place. */
    static void faulty(String text, int fault, int place) {
        SandHours x = new SandHours();
        due("text of " + text, tell(x, text), -1);
        due("fault(0) of " + text, x.fault(0), fault);
        due("fault(1) of " + text, x.fault(1), place);
    }

    /** 0: it answers; 1: IndexOutOfBoundsException; 2: NoSuchElementException. */
    static int thrown(SandHours x, int glass, int what) {
        try {
            x.glass(glass, what);
            return 0;
        } catch (IndexOutOfBoundsException e) {
            return 1;
        } catch (java.util.NoSuchElementException e) {
            return 2;
        }
    }

    static void end() {
        System.out.println(asked + " answers, " + wrong + " wrong");
        if (wrong != 0 || asked == 0) {
            System.exit(1);
        }
    }
}
