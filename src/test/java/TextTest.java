/** Promises 1 to 5: a new object, feed, text, fault, named. */
public final class TextTest {
    private static final String MEN = "man a;man b;man c;man d;man e;";
    private static final String TWO = "man a;glass g a 1 2 3 4;glass h a 1 1 1 1;";

    public static void main(String[] args) {
        newObject();
        feeding();
        reading();
        tokens();
        tooMuch();
        toldAlready();
        notTold();
        laws();
        firstAlongTheText();
        oneBehindAnother();
        names();
        Check.end();
    }

    private static void newObject() {
        SandHours x = new SandHours();
        for (int what = 0; what <= 13; what++) {
            Check.due("count of a new one " + what, x.count(what), 0);
        }
        Check.due("count(14)", x.count(14), -1);
        Check.due("count(-1)", x.count(-1), -1);
        Check.due("fault(0)", x.fault(0), 0);
        Check.due("fault(1)", x.fault(1), -1);
        Check.due("text(1)", x.text(1), -2);
        Check.due("NONE", SandHours.NONE, -1);
    }

    private static void feeding() {
        SandHours x = new SandHours();
        for (int k = 1; k <= 35; k++) {
            Check.due("feed", x.feed(k, -1, 0, 5, 6), 20 * k);
        }
        Check.due("feed beyond 700", x.feed(1, 1, 1, 1, 1), -1);
        Check.due("text(701)", x.text(701), -2);
        Check.due("text(-1)", x.text(-1), -2);
        Check.due("the tape stays", x.feed(1, 1, 1, 1, 1), -1);
        Check.due("text(0)", x.text(0), 0);
        Check.due("the tape is empty", x.feed(1, 1, 1, 1, 1), 20);
        // the highest byte of each number is the first: "man " "abc;" "man " "d ; " "    "
        SandHours y = new SandHours();
        y.feed(0x6d616e20, 0x6162633b, 0x6d616e20, 0x64203b20, 0x20202020);
        Check.due("text(20)", y.text(20), 2);
        Check.due("named abc", y.named(0, Check.letters("abc")), 0);
        Check.due("named d", y.named(0, Check.letters("d")), 1);
    }

    private static void reading() {
        SandHours x = Check.told("man a;glass g a 10 20 3 4;damp 60;");
        Check.due("go", x.go(3), 3);
        Check.due("flip", x.flip(0), 23);
        x.see(1, 0, 5, true);
        x.known(0);
        x.keep();
        Check.due("text with a fault", Check.tell(x, "man a;man a;"), -1);
        Check.due("all stays: minute", x.count(5), 3);
        Check.due("all stays: glass", x.glass(0, 1), 23);
        Check.due("all stays: seen", x.count(11), 1);
        Check.due("all stays: undo", x.count(13), 1);
        Check.due("fault stays with -2", x.text(500), -2);
        Check.due("fault(0)", x.fault(0), 3);
        Check.due("fault(1)", x.fault(1), 10);
        Check.due("fault(2)", x.fault(2), -1);
        Check.due("fault(-1)", x.fault(-1), -1);
        Check.due("text", Check.tell(x, "man b;glass g b 10 20 3 4;"), 2);
        Check.due("fault(0) without", x.fault(0), 0);
        Check.due("fault(1) without", x.fault(1), -1);
        Check.due("minute", x.count(5), 0);
        Check.due("dry", x.wets(), 0);
        Check.due("seen", x.count(11), 0);
        Check.due("undo", x.undo(), -1);
        Check.due("back", x.back(), -1);
        x.see(1, 0, 5, true);
        Check.due("all known", x.count(12), 1);
        Check.due("only the first n bytes", firstBytes("man a;man b;man c;", 12), 2);
        Check.due("blanks alone", Check.tell(x, " \n \n"), 0);
        Check.due("no glasses then", x.count(1), 0);
        Check.due("blanks between", Check.tell(x, "\nman\na ;glass g a 0005 6 7 8; \n"), 2);
        Check.due("zeros ahead", x.glass(0, 1), 5);
        Check.due("no blanks where none need be", Check.tell(x, "law flow(1)<=2;sieve9;"), 2);
    }

    private static int firstBytes(String text, int n) {
        SandHours x = new SandHours();
        Check.feed(x, text);
        return x.text(n);
    }

    private static void tokens() {
        Check.faulty("men a;", 1, 0);
        Check.faulty(" a", 1, 1);
        Check.faulty(";", 1, 0);
        Check.faulty("man a", 1, 5);
        Check.faulty("man a  \n", 1, 8);
        Check.faulty("man", 1, 3);
        Check.faulty("man 1;", 1, 4);
        Check.faulty("man abcdefg;", 1, 4);
        Check.faulty("man A;", 1, 4);
        Check.faulty("man a\t;", 1, 5);
        Check.faulty("man a\u00e9;", 1, 5);
        Check.faulty("man a1;", 1, 5);
        Check.faulty("sieve x;", 1, 6);
        Check.faulty("sieve 1 1;", 1, 8);
        Check.faulty("flow 1;", 1, 0);
        for (String word : new String[] {"man", "glass", "turn", "pay", "sieve", "damp", "seed", "law", "flow", "tax", "wind",
            "or", "and", "not", "above", "below", "neck", "coarse", "wet", "paid", "minute"}) {
            Check.faulty("man " + word + ";", 1, 4);
        }
        Check.due("six letters", Check.tell(new SandHours(), "man abcdef;"), 1);
    }

    private static void tooMuch() {
        Check.faulty(MEN + "man f;", 2, 30);
        Check.faulty(MEN + "man", 2, 30);
        Check.faulty("man a;glass g a 100 1 1 1;", 2, 16);
        Check.faulty("man a;glass g a 1 100 1 1;", 2, 18);
        Check.faulty("man a;glass g a 1 1 0 1;", 2, 20);
        Check.faulty("man a;glass g a 1 1 10 1;", 2, 20);
        Check.faulty("man a;glass g a 1 1 1 0;", 2, 22);
        Check.faulty("man a;glass g a 1 1 1 10;", 2, 22);
        Check.faulty(TWO + "turn g 100;", 2, TWO.length() + 7);
        Check.faulty(TWO + "pay g h 100 1;", 2, TWO.length() + 8);
        Check.faulty(TWO + "pay g h 1 0;", 2, TWO.length() + 10);
        Check.faulty(TWO + "pay g h 1 100;", 2, TWO.length() + 10);
        Check.faulty("sieve 0;", 2, 6);
        Check.faulty("sieve 10;", 2, 6);
        Check.faulty("damp 101;", 2, 5);
        Check.faulty("seed 100000;", 2, 5);
        Check.faulty("seed 99999999999999999999999;", 2, 5);
        Check.faulty("seed 4294967296;", 2, 5);
        String turns = TWO + "turn g 1;".repeat(10);
        Check.due("ten turns", Check.tell(new SandHours(), turns), 13);
        Check.faulty(turns + "turn g 1;", 2, turns.length());
        String pays = TWO + "pay g h 1 1;".repeat(10);
        Check.due("ten payments", Check.tell(new SandHours(), pays), 13);
        Check.faulty(pays + "pay g h 1 1;", 2, pays.length());
        String sieves = "sieve 1;".repeat(6);
        Check.due("six sieves", Check.tell(new SandHours(), sieves), 6);
        Check.faulty(sieves + "sieve 1;", 2, sieves.length());
        StringBuilder glasses = new StringBuilder("man a;");
        for (char name = 'a'; name <= 'h'; name++) {
            glasses.append("glass ").append(name).append(" a 1 1 1 1;");
        }
        Check.due("eight glasses", Check.tell(new SandHours(), glasses.toString()), 9);
        Check.faulty(glasses + "glass i a 1 1 1 1;", 2, glasses.length());
    }

    private static void toldAlready() {
        Check.faulty("man a;man a;", 3, 10);
        Check.faulty(TWO + "glass g a 1 1 1 1;", 3, TWO.length() + 6);
        Check.faulty("damp 1;damp 1;", 3, 7);
        Check.faulty("seed 1;seed 1;", 3, 7);
        Check.faulty("law tax 1;law tax 1;", 3, 14);
        Check.faulty("damp 1;damp", 3, 7);
        Check.due("a man and a glass of one name", Check.tell(new SandHours(), "man a;glass a a 1 1 1 1;"), 2);
    }

    private static void notTold() {
        Check.faulty("glass g a 1 1 1 1;", 4, 8);
        Check.faulty("turn g 1;", 4, 5);
        Check.faulty("man a;turn a 1;", 4, 11);
        Check.faulty(TWO + "pay x g 1 1;", 4, TWO.length() + 4);
        Check.faulty(TWO + "pay g x 1 1;", 4, TWO.length() + 6);
        Check.faulty(TWO + "pay x x 1 1;", 4, TWO.length() + 4);
        Check.faulty(TWO + "pay g g 1 1;", 5, TWO.length() + 6);
        Check.faulty("man a;glass g g 1 1 1 1;", 4, 14);
    }

    private static void laws() {
        Check.faulty("law;", 1, 3);
        Check.faulty("law rain 1;", 1, 4);
        Check.faulty("law flow;", 1, 8);
        Check.faulty("law flow x;", 1, 9);
        Check.faulty("law flow man;", 1, 9);
        Check.faulty("law flow -1;", 1, 9);
        Check.faulty("law flow 1 2;", 1, 11);
        Check.faulty("law flow 1 +;", 1, 12);
        Check.faulty("law flow 1 + not 2;", 1, 13);
        Check.faulty("law flow 1 < not 2;", 1, 13);
        Check.faulty("law flow 1 < 2 < 3;", 1, 15);
        Check.faulty("law flow 1 < 2 + 3 = 4;", 1, 19);
        Check.faulty("law flow 1 > 2 > 3;", 1, 15);
        Check.faulty("law flow not 1 > 2 <> 3;", 1, 19);
        Check.faulty("law flow 1 < = 2;", 1, 13);
        Check.faulty("law flow 1 => 2;", 1, 12);
        Check.faulty("law flow 1 <>= 2;", 1, 13);
        Check.faulty("law flow (1;", 1, 11);
        Check.faulty("law flow 1);", 1, 10);
        Check.faulty("law flow ();", 1, 10);
        Check.faulty("law flow (1", 1, 11);
        Check.faulty("law flow 1 not 2;", 1, 11);
        Check.faulty("law flow 1 and;", 1, 14);
        Check.faulty("law flow or 1;", 1, 9);
        Check.faulty("law flow 10000;", 2, 9);
        Check.faulty("law flow (((((((((1)))))))));", 2, 17);
        Check.due("eight open", Check.tell(new SandHours(), "law flow ((((((((1))))))))+((((((((1))))))));"), 1);
        Check.due("comparisons in brackets, behind and", Check.tell(new SandHours(),
                "law tax (1<2)<3 and not not 4>=5 or 6<>7;"), 1);
        String knots = "1" + "+1".repeat(31);
        SandHours x = Check.told("law flow " + knots + ";law tax 1;");
        Check.due("knots of all E", x.count(4), 64);
        Check.faulty("law flow " + knots + ";law tax 1;law wind 1;", 2, 9 + knots.length() + 1 + 10 + 9);
        Check.faulty("law flow " + knots + "+1;", 2, 9 + knots.length() + 1);
        Check.faulty("law flow " + knots + ";law tax 1;law wind );", 1, 9 + knots.length() + 1 + 10 + 9);
        Check.due("brackets are no knots", Check.told("law flow ((1)+(not neck));").count(4), 4);
    }

    private static void firstAlongTheText() {
        Check.faulty("man a;man a;!", 3, 10);
        Check.faulty("sieve 0 1;", 2, 6);
        Check.faulty("glass g a 100 1 1 1;", 4, 8);
        Check.faulty("man a;glass g a 1 1 1;", 1, 21);
        Check.faulty("damp 1;damp 101;", 3, 7);
        Check.faulty("law flow 10000 10000;", 2, 9);
    }

    /** Nothing of one text is left in the next one. */
    private static void oneBehindAnother() {
        SandHours x = new SandHours();
        String knots = "1" + "+1".repeat(19);
        for (int k = 1; k <= 6; k++) {
            Check.due("text", Check.tell(x, "man a;glass g a 9 9 1 1;law flow " + knots + ";law tax " + k + ";"), 4);
            Check.due("knots", x.count(4), 40);
            Check.due("flow", x.law(0, 0), 20);
            Check.due("tax", x.law(1, 0), k);
        }
        for (int k = 0; k < 12; k++) {
            Check.due("a fault with signs that wait", Check.tell(x, "law flow 1 + (2 * (((((((3 -"), -1);
        }
        Check.due("text", Check.tell(x, "man a;glass g a 9 9 1 1;law flow 1+(2*(9-3));"), 3);
        Check.due("knots", x.count(4), 7);
        Check.due("flow", x.law(0, 0), 13);
        Check.due("no tax", x.law(1, 0), Long.MIN_VALUE);
        Check.due("text", Check.tell(x, TWO + "turn g 0;pay g h 0 1;sieve 3;damp 100;seed 7;law wind 9;"), 9);
        x.go(1);
        Check.due("text", Check.tell(x, TWO), 3);
        Check.due("text", Check.tell(x, TWO), 3);
        Check.due("payments", x.count(2), 0);
        Check.due("sieves", x.count(3), 0);
        Check.due("paid", x.count(7), 0);
        Check.due("go", x.go(1), 1);
        Check.due("no turn", x.glass(0, 2), 3);
        Check.due("no damp", x.wets(), 0);
        Check.due("damp and seed may be told", Check.tell(x, TWO + "damp 1;seed 1;turn 1"), -1);
        Check.due("a number is no name", x.fault(0), 1);
        Check.due("a number is no name", x.fault(1), TWO.length() + 19);
        Check.due("damp and seed may be told again", Check.tell(x, TWO + "damp 0;seed 0;"), 5);
    }

    private static void names() {
        SandHours x = Check.told("man a;man abcdef;man z;glass b a 1 1 1 1;glass a z 1 1 1 1;");
        Check.due("named a", x.named(0, 1 << 25), 0);
        Check.due("named abcdef", x.named(0, Check.letters("abcdef")), 1);
        Check.due("named z", x.named(0, 26 << 25), 2);
        Check.due("named glass b", x.named(1, 2 << 25), 0);
        Check.due("named glass a", x.named(1, 1 << 25), 1);
        Check.due("a low letter", x.named(0, 1), -1);
        Check.due("no letters", x.named(0, 0), -1);
        Check.due("below 0", x.named(0, -1), -1);
        Check.due("no such glass", x.named(1, 26 << 25), -1);
        Check.due("what 2", x.named(2, 1 << 25), -1);
        Check.due("what -1", x.named(-1, 1 << 25), -1);
    }
}
