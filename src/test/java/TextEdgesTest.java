/** The edges that the document names of promises 1 to 5 and of ==== 1: each sentence has its own test. */
public final class TextEdgesTest {
    private static final String TWO = "man a;glass g a 1 2 3 4;glass h a 5 6 7 8;";
    private static final int T = TWO.length();
    private static final String[] LANGUAGE = {"man", "glass", "turn", "pay", "sieve", "damp", "seed", "law", "flow", "tax", "wind",
        "or", "and", "not", "above", "below", "neck", "coarse", "wet", "paid", "minute"};

    public static void main(String[] args) {
        textItself();
        words();
        numbers();
        blanks();
        signsOfTwo();
        howMany();
        ofPeopleAndGlasses();
        ofTurnsAndPayments();
        ofTheRest();
        noTokens();
        cantStandInE();
        theLength();
        tooMuch();
        openBrackets();
        knots();
        toldAlready();
        notToldAhead();
        toItself();
        firstOfAll();
        newObject();
        feeding();
        readingOfTheTape();
        nothingOfTheOldOne();
        withAFault();
        notSoMany();
        latestFault();
        names();
        Check.end();
    }

    private static int lines(String text) {
        return Check.tell(new SandHours(), text);
    }

    private static String glass(String name, String rest) {
        return "glass " + name + " a " + rest + ";";
    }

    private static void textItself() {
        Check.sentence("A TEXT: { LINE ';' }.");
        Check.due("no LINE", lines(""), 0);
        Check.due("one LINE", lines("man a;"), 1);
        Check.faulty("man a", 1, 5);
        Check.faulty("man a man b;", 1, 6);
        Check.faulty("man a;;", 1, 6);
        Check.faulty(";man a;", 1, 0);
        Check.sentence("LINE: man W | glass W W N N N N | turn W N | pay W W N N | sieve N | damp N | seed N | law LAW E.");
        Check.faulty("man a b;", 1, 6);
        Check.faulty("man;", 1, 3);
        Check.faulty("man a;glass g;", 1, 13);
        Check.faulty("man a;glass g a 1 1 1;", 1, 21);
        Check.faulty("man a;glass g a 1 1 1 1 1;", 1, 24);
        Check.faulty("man a;glass g a b 1 1 1 1;", 1, 16);
        Check.faulty(TWO + "turn g;", 1, T + 6);
        Check.faulty(TWO + "turn g 1 1;", 1, T + 9);
        Check.faulty(TWO + "turn g h 1;", 1, T + 7);
        Check.faulty(TWO + "pay g 1 1;", 1, T + 6);
        Check.faulty(TWO + "pay g h 1;", 1, T + 9);
        Check.faulty(TWO + "pay g h 1 1 1;", 1, T + 12);
        Check.faulty("sieve;", 1, 5);
        Check.faulty("sieve 1 1;", 1, 8);
        Check.faulty("damp;", 1, 4);
        Check.faulty("damp 1 1;", 1, 7);
        Check.faulty("seed a;", 1, 5);
        Check.faulty("seed 1 1;", 1, 7);
        Check.faulty("law 1;", 1, 4);
        Check.sentence("LAW: flow | tax | wind.");
        Check.due("all three", lines("law flow 1;law tax 1;law wind 1;"), 3);
        for (String word : LANGUAGE) {
            if (!word.equals("flow") && !word.equals("tax") && !word.equals("wind")) {
                Check.faulty("law " + word + " 1;", 1, 4);
            }
        }
        Check.faulty("law law flow 1;", 1, 4);
        Check.faulty("law rain 1;", 1, 4);
    }

    private static void words() {
        Check.sentence("Words: small letters in a row");
        Check.faulty("man A;", 1, 4);
        Check.faulty("man aB;", 1, 5);
        Check.faulty("Man a;", 1, 0);
        Check.faulty("man`;", 1, 3);
        Check.faulty("man{;", 1, 3);
        Check.due("from a to z", lines("man a;man z;man az;"), 3);
        Check.sentence("W: one of 1 .. 6 letters");
        Check.due("one letter, six letters", lines("man x;man uvwxyz;man zzzzzz;"), 3);
        Check.faulty("man abcdefg;", 1, 4);
        Check.faulty("man a;glass abcdefg a 1 1 1 1;", 1, 12);
        Check.faulty("man a;glass g abcdefg 1 1 1 1;", 1, 14);
        Check.faulty(TWO + "turn gggggggg 1;", 1, T + 5);
        Check.sentence("none of those of the language");
        for (String word : LANGUAGE) {
            Check.faulty("man " + word + ";", 1, 4);
            Check.faulty("man a;glass " + word + " a 1 1 1 1;", 1, 12);
            Check.faulty("man a;glass g " + word + " 1 1 1 1;", 1, 14);
            Check.faulty(TWO + "turn " + word + " 1;", 1, T + 5);
            Check.faulty(TWO + "pay g " + word + " 1 1;", 1, T + 6);
        }
        Check.due("words that begin likewise are W", lines("man ma;man mans;man o;man minut;man coars;"), 5);
    }

    private static void numbers() {
        Check.sentence("N: digits.");
        SandHours x = Check.told("man a;glass g a 007 000000000000000000000000000000099 01 009;");
        Check.due("zeros ahead", x.glass(0, 1), 7);
        Check.due("many zeros ahead", x.glass(0, 2), 99);
        Check.due("0 to 9", lines("seed 01234;damp 56;sieve 7;sieve 8;sieve 9;"), 5);
        Check.faulty("sieve -1;", 1, 6);
        Check.faulty("sieve +1;", 1, 6);
        Check.faulty("sieve 1.5;", 1, 7);
        Check.faulty("sieve 1a;", 1, 7);
        Check.faulty("sieve 1 a;", 1, 8);
        Check.faulty("sieve /;", 1, 6);
        Check.faulty("sieve :;", 1, 6);
        Check.sentence("N of E 0 .. 9999.");
        SandHours y = Check.told(TWO + "law flow 9999;law tax 0;law wind 000009999;");
        Check.due("9999", y.law(0, 0), 9999);
        Check.due("0", y.law(1, 0), 0);
        Check.due("9999 with zeros ahead", y.law(2, 0), 9999);
        Check.faulty("law flow 10000;", 2, 9);
        Check.faulty("law flow 1+10000;", 2, 11);
        Check.faulty("law flow 4294967296;", 2, 9);
        Check.faulty("law flow 18446744073709551616;", 2, 9);
        Check.faulty("law flow 99999999999999999999999999999999999999;", 2, 9);
    }

    private static void blanks() {
        Check.sentence("Blanks 10, 32.");
        for (int sign = 0; sign < 256; sign++) {
            String text = "man a" + (char) sign + ";";
            boolean letter = sign >= 'a' && sign <= 'z';
            if (sign == 10 || sign == 32 || letter) {
                Check.due("with sign " + sign, lines(text), 1);
            } else if (sign == ';') {
                Check.faulty(text, 1, 6);
            } else {
                Check.faulty(text, 1, 5);
            }
        }
        Check.due("many", lines("\n\n  man \n a \n\n; \n"), 1);
        Check.due("none but where words or numbers would meet", lines("man a;glass g a 1 2 3 4;turn g 5;law flow(neck)+1<2and(not wet);"), 4);
        Check.faulty("ma n a;", 1, 0);
        Check.faulty("mana;", 1, 0);
        Check.faulty("sieve 1 0;", 1, 8);
    }

    private static long flow(String e) {
        return Check.told("man a;glass g a 1 2 3 4;law flow " + e + ";").law(0, 0);
    }

    private static void signsOfTwo() {
        Check.sentence("A = (or > behind <) right behind < or > belongs to it.");
        Check.due("3 <= 3", flow("neck<=3"), 1);
        Check.due("3 >= 3", flow("neck>=3"), 1);
        Check.due("3 <> 3", flow("neck<>3"), 0);
        Check.faulty("law flow 1 < = 2;", 1, 13);
        Check.faulty("law flow 1 > = 2;", 1, 13);
        Check.faulty("law flow 1 < > 2;", 1, 13);
        Check.faulty("law flow 1 <\n= 2;", 1, 13);
        Check.faulty("law flow 1 =< 2;", 1, 12);
        Check.faulty("law flow 1 => 2;", 1, 12);
        Check.faulty("law flow 1 >< 2;", 1, 12);
        Check.faulty("law flow 1 == 2;", 1, 12);
        Check.faulty("law flow 1 <<= 2;", 1, 12);
        Check.faulty("law flow 1 <== 2;", 1, 13);
        Check.faulty("law flow 1 <>= 2;", 1, 13);
        Check.faulty("law flow 1 >=> 2;", 1, 13);
        Check.faulty("law flow 1<", 1, 11);
        Check.faulty("law flow 1<>", 1, 12);
    }

    private static String many(String line, int times) {
        return line.repeat(times);
    }

    private static String glasses(int n) {
        StringBuilder t = new StringBuilder("man a;");
        for (int g = 0; g < n; g++) {
            t.append(glass("" + (char) ('a' + g), "1 1 1 1"));
        }
        return t.toString();
    }

    private static void howMany() {
        String men = "man a;man b;man c;man d;man e;";
        Check.sentence("PEOPLE (man), at most 5.");
        Check.due("five", Check.told(men).count(0), 5);
        Check.faulty(men + "man f;", 2, 30);
        Check.sentence("GLASSES, at most 8");
        Check.due("eight", Check.told(glasses(8)).count(1), 8);
        Check.faulty(glasses(9), 2, glasses(8).length());
        Check.sentence("TURNS, at most 10");
        SandHours turned = Check.told(TWO + many("turn g 0;", 9) + "turn g 0;");
        turned.go(1);
        Check.due("ten turns leave it as it was", turned.glass(0, 2), 3);
        SandHours once = Check.told(TWO + many("turn g 1;", 9) + "turn g 0;");
        once.go(1);
        Check.due("the tenth one counts", once.glass(0, 2), 3);
        Check.due("the tenth one counts", once.glass(0, 1), 0);
        Check.faulty(TWO + many("turn g 0;", 10) + "turn g 0;", 2, T + 90);
        Check.sentence("PAYMENTS, at most 10");
        SandHours paying = Check.told(TWO + many("pay g h 1 1;", 9) + "pay h g 7 9;");
        Check.due("ten", paying.count(2), 10);
        Check.due("the tenth", paying.payment(9, 2), 7);
        Check.faulty(TWO + many("pay g h 1 1;", 11), 2, T + 120);
        Check.sentence("SIEVES, at most 6");
        Check.due("six", Check.told(many("sieve 3;", 6)).count(3), 6);
        Check.faulty(many("sieve 3;", 7), 2, 48);
        Check.sentence("All numbered as they come");
        SandHours x = Check.told("man b;man a;glass y a 1 1 1 1;glass x b 2 2 2 2;sieve 9;sieve 1;pay y x 1 1;pay x y 1 1;");
        Check.due("man b", x.named(0, Check.letters("b")), 0);
        Check.due("man a", x.named(0, Check.letters("a")), 1);
        Check.due("glass y", x.named(1, Check.letters("y")), 0);
        Check.due("glass y is of the second one", x.glass(0, 0), 1);
        Check.due("glass x", x.named(1, Check.letters("x")), 1);
        Check.due("payment", x.payment(1, 0), 1);
        Check.due("of two sieves the second tells them apart", x.apart(), 2);
        Check.sentence("PEOPLE, GLASSES have names of their kind.");
        SandHours y = Check.told("man a;man b;glass b a 1 1 1 1;glass a b 1 1 1 1;turn a 0;");
        Check.due("man b", y.named(0, Check.letters("b")), 1);
        Check.due("glass b", y.named(1, Check.letters("b")), 0);
        Check.faulty("man a;glass a a 1 1 1 1;glass a a 1 1 1 1;", 3, 30);
    }

    private static void ofPeopleAndGlasses() {
        String head = "man a;glass g a ";
        String[] kinds = {"ABOVE 0 .. 99", "BELOW 0 .. 99", "NECK 1 .. 9", "COARSE 1 .. 9"};
        int[] least = {0, 0, 1, 1};
        int[] most = {99, 99, 9, 9};
        for (int k = 0; k < 4; k++) {
            Check.sentence(kinds[k]);
            Check.due("the least", Check.told(head + of(k, least[k]) + ";").glass(0, k + 1), least[k]);
            Check.due("the most", Check.told(head + of(k, most[k]) + ";").glass(0, k + 1), most[k]);
            Check.faulty(head + of(k, most[k] + 1) + ";", 2, head.length() + 2 * k);
            Check.faulty(head + of(k, 1000000007) + ";", 2, head.length() + 2 * k);
            if (least[k] > 0) {
                Check.faulty(head + of(k, least[k] - 1) + ";", 2, head.length() + 2 * k);
            }
        }
    }

    /** Four numbers, 1 but for the k-th. */
    private static String of(int k, int number) {
        StringBuilder t = new StringBuilder();
        for (int n = 0; n < 4; n++) {
            t.append(n == 0 ? "" : " ").append(n == k ? number : 1);
        }
        return t.toString();
    }

    private static void ofTurnsAndPayments() {
        Check.sentence("TURNS, at most 10: of a GLASS at a MINUTE 0 .. 99.");
        SandHours x = Check.told("man a;glass g a 0 9 9 1;law flow 0;turn g 0;turn g 99;");
        x.go(1);
        Check.due("turned in 0", x.glass(0, 1), 9);
        x.go(98);
        Check.due("not yet again", x.glass(0, 1), 9);
        x.go(1);
        Check.due("turned in 99", x.glass(0, 1), 0);
        Check.faulty(TWO + "turn g 100;", 2, T + 7);
        Check.sentence("PAYMENTS, at most 10: from a GLASS to another one, at a MINUTE 0 .. 99, GRAINS 1 .. 99.");
        SandHours y = Check.told("man a;glass g a 0 99 1 1;glass h a 0 1 1 1;pay g h 0 99;pay h g 99 1;");
        Check.due("minute 0", y.payment(0, 2), 0);
        Check.due("99 grains", y.payment(0, 3), 99);
        Check.due("minute 99", y.payment(1, 2), 99);
        Check.due("1 grain", y.payment(1, 3), 1);
        y.go(1);
        Check.due("it is paid in 0", y.payment(0, 4), 1);
        y.go(98);
        Check.due("not yet", y.payment(1, 4), 0);
        y.go(1);
        Check.due("it is paid in 99", y.payment(1, 4), 1);
        Check.faulty(TWO + "pay g h 100 1;", 2, T + 8);
        Check.faulty(TWO + "pay g h 1 0;", 2, T + 10);
        Check.faulty(TWO + "pay g h 1 100;", 2, T + 10);
    }

    private static int goesThrough(String sieve) {
        return Check.told("man a;glass g a 1 1 1 1;glass h a 1 1 1 9;" + sieve).apart();
    }

    private static void ofTheRest() {
        Check.sentence("MESH 1 .. 9");
        Check.due("1", goesThrough("sieve 1;"), 1);
        Check.due("8", goesThrough("sieve 8;"), 1);
        Check.due("9 lets both through", goesThrough("sieve 9;"), -2);
        Check.faulty("sieve 0;", 2, 6);
        Check.faulty("sieve 10;", 2, 6);
        Check.sentence("damp: of a hundred 0 .. 100 (0).");
        Check.due("0", Check.told(TWO + "damp 0;").staysDry(0, 1, 0), 1);
        Check.due("100", Check.told(TWO + "damp 100;").staysDry(0, 1, 0), 0);
        Check.due("1", Check.told(TWO + "damp 1;").staysDry(0, 1, 0), 99);
        Check.due("without", Check.told(TWO).staysDry(0, 1, 0), 1);
        Check.faulty("damp 101;", 2, 5);
        Check.sentence("seed: 0 .. 99999 (0).");
        String eight = glasses(8) + "damp 40;";
        Check.due("without as with 0", wetsIn(eight, 3), wetsIn(eight + "seed 0;", 3));
        Check.due("99999 is one", wetsIn(eight + "seed 99999;", 1), drawn(99999, 40));
        Check.due("99998 is one", wetsIn(eight + "seed 99998;", 1), drawn(99998, 40));
        Check.faulty("seed 100000;", 2, 5);
        Check.faulty("seed 2147483648;", 2, 5);
    }

    private static int wetsIn(String text, int minutes) {
        SandHours x = Check.told(text);
        x.go(minutes);
        return x.wets();
    }

    /** Which of eight glasses are wet behind one minute. */
    private static int drawn(long seed, int damp) {
        long last = seed;
        int bits = 0;
        for (int g = 0; g < 8; g++) {
            last = (last * 1103515245L + 12345L) % 2147483648L;
            bits |= last / 65536 % 100 < damp ? 1 << g : 0;
        }
        return bits;
    }

    private static void noTokens() {
        Check.sentence("1 a TOKEN that is none (a word of more than 6 letters that isn't of the language, too)");
        Check.faulty("!", 1, 0);
        Check.faulty("man a;  ?", 1, 8);
        Check.faulty("\u0000man a;", 1, 0);
        Check.faulty("man a;\u00ff", 1, 6);
        Check.faulty("law flow 1 & 2;", 1, 11);
        Check.faulty("law flow 1 + minutes;", 1, 13);
        Check.faulty("abcdefg", 1, 0);
        Check.faulty("man minutes;", 1, 4);
        Check.faulty("man coarses;", 1, 4);
        Check.faulty("man a" + "b".repeat(100) + ";", 1, 4);
        Check.sentence("or can't stand there");
        for (String token : new String[] {"a", "9", "(", ")", "<", "<=", "=", "<>", ">=", ">", "+", "-", "*", "/", ";", "flow", "tax",
            "wind", "or", "and", "not", "above", "minute"}) {
            Check.faulty("man a; " + token, 1, 7);
        }
        Check.faulty("man (;", 1, 4);
        Check.faulty("sieve (1);", 1, 6);
        Check.faulty("sieve neck;", 1, 6);
        Check.faulty("damp 1+1;", 1, 6);
        Check.faulty("man a, b;", 1, 5);
    }

    private static void cantStandInE() {
        Check.sentence("E: A { or A }. A: B { and B }. B: not B | C.");
        Check.due("or, and, not", flow("not 0 and 1 or not not 0"), 1);
        Check.faulty("law flow or 1;", 1, 9);
        Check.faulty("law flow 1 or or 1;", 1, 14);
        Check.faulty("law flow 1 or;", 1, 13);
        Check.faulty("law flow and 1;", 1, 9);
        Check.faulty("law flow 1 and or 1;", 1, 15);
        Check.faulty("law flow 1 and;", 1, 14);
        Check.faulty("law flow not;", 1, 12);
        Check.faulty("law flow not or 1;", 1, 13);
        Check.faulty("law flow 1 not 1;", 1, 11);
        Check.faulty("law flow (not);", 1, 13);
        Check.sentence("C: S [ ( < | <= | = | <> | >= | > ) S ].");
        for (String sign : new String[] {"<", "<=", "=", "<>", ">=", ">"}) {
            int n = sign.length();
            Check.due("once", lines("law flow 1 " + sign + " 2;"), 1);
            Check.faulty("law flow 1 " + sign + " 2 " + sign + " 3;", 1, 14 + n);
            Check.faulty("law flow 1 " + sign + ";", 1, 11 + n);
            Check.faulty("law flow " + sign + " 1;", 1, 9);
            Check.faulty("law flow 1 " + sign + " not 2;", 1, 12 + n);
        }
        Check.due("each side in brackets", lines("law flow (1<2)<(3<4);"), 1);
        Check.due("on both sides of and, or", lines("law flow 1<2 and 3<4 or 5<6;"), 1);
        Check.faulty("law flow not 1 < 2 < 3;", 1, 19);
        Check.faulty("law flow 0 or 1 < 2 + 3 * 4 > 5;", 1, 28);
        Check.sentence("S: T { ( + | - ) T }. T: P { ( * | / ) P }.");
        for (String sign : new String[] {"+", "-", "*", "/"}) {
            Check.due("twice", lines("law flow 1" + sign + "2" + sign + "3;"), 1);
            Check.faulty("law flow " + sign + "1;", 1, 9);
            Check.faulty("law flow 1" + sign + ";", 1, 11);
            Check.faulty("law flow 1" + sign + sign + "1;", 1, 11);
            Check.faulty("law flow 1" + sign + "not 1;", 1, 11);
        }
        Check.sentence("P: N | NAME | '(' E ')'");
        Check.due("brackets in brackets", flow("((neck))"), 3);
        Check.faulty("law flow ();", 1, 10);
        Check.faulty("law flow (1;", 1, 11);
        Check.faulty("law flow 1);", 1, 10);
        Check.faulty("law flow (1));", 1, 12);
        Check.faulty("law flow (1)(2);", 1, 12);
        Check.faulty("law flow 1(2);", 1, 10);
        Check.faulty("law flow (1)2;", 1, 12);
        Check.faulty("law flow neck neck;", 1, 14);
        Check.faulty("law flow a;", 1, 9);
        Check.faulty("law flow flow;", 1, 9);
        Check.faulty("law flow;", 1, 8);
        Check.faulty("law tax (1+;", 1, 11);
        Check.due("not in brackets", flow("1 + (not 0)"), 2);
        Check.due("not in brackets behind a comparison", flow("1 < (not 0)"), 0);
    }

    private static void theLength() {
        Check.sentence("(the length, if more must come)");
        Check.faulty("man", 1, 3);
        Check.faulty("man ", 1, 4);
        Check.faulty("man a \n\n", 1, 8);
        Check.faulty("man a;law flow (1 + ", 1, 20);
        Check.faulty("man a;law flow 1", 1, 16);
        Check.faulty(TWO + "pay g h 1", 1, T + 9);
        String[] parts = {"man", "man a", "glass", "glass g", "glass g a", "glass g a 1", "glass g a 1 2 3 4", "turn", "pay", "sieve",
            "sieve 1", "damp", "damp 1", "seed", "seed 1", "law", "law tax", "law tax not", "law tax (", "law tax 1 and"};
        for (String part : parts) {
            String text = part.startsWith("man") ? part : "man a;" + part;
            Check.faulty(text, 1, text.length());
        }
        SandHours x = new SandHours();
        Check.feed(x, "man a;man b;");
        Check.due("the tape goes on, the text doesn't", x.text(9), -1);
        Check.due("fault", x.fault(0), 1);
        Check.due("its place is the length of the text", x.fault(1), 9);
        // whatever stands behind the n bytes does not belong to a TOKEN at their end
        String[] cut = {"damp 1|00;", "damp |1;", "dam|p 1;", "man a|b;", "man |ab;", "man a;law flow 1<|=2;", "man a;law flow 1>|=2;",
            "man a;law flow 1<|>2;", "man a;law flow 1|2;", "man a;law flow |(1);", "man a |  ;", "man a|;"};
        for (String text : cut) {
            int n = text.indexOf('|');
            SandHours y = new SandHours();
            Check.feed(y, text.replace("|", ""));
            Check.due("text of " + text, y.text(n), -1);
            Check.due("fault of " + text, y.fault(0), 1);
            Check.due("place of " + text, y.fault(1), text.startsWith("dam|") ? 0 : n);
        }
        for (String end : new String[] {"1", "99999", "abc", "<", ">", "<=", "<>", "(", " ", "\n"}) {
            String filled = "law flow 1" + " ".repeat(690 - end.length()) + end;
            SandHours y = new SandHours();
            Check.due("feed", Check.feed(y, filled), 700);
            Check.due("text up to the TAPE's end with " + end, y.text(700), -1);
            boolean sign = end.startsWith("<") || end.startsWith(">") || end.isBlank();
            Check.due("place with " + end, y.fault(1), sign ? 700 : 700 - end.length());
        }
        String whole = "man a;" + " ".repeat(691) + "man";
        Check.faulty(whole, 1, 700);
    }

    private static void tooMuch() {
        Check.sentence("2 too much (at it): a number beyond what is said");
        Check.faulty("man a;glass g a 1 1 1  10;", 2, 23);
        Check.faulty("damp \n 101;", 2, 7);
        Check.faulty("damp 101", 2, 5);
        Check.faulty("damp 00101;", 2, 5);
        Check.sentence("a sixth man and so on (at the word of the LINE)");
        Check.faulty("man a;man b;man c;man d;man e; man a;", 2, 31);
        Check.faulty("man a;man b;man c;man d;man e;man 1;", 2, 30);
        Check.faulty("man a;man b;man c;man d;man e;man", 2, 30);
        Check.faulty(glasses(8) + " glass x y 100", 2, glasses(8).length() + 1);
        Check.faulty(TWO + many("turn g 0;", 10) + " turn x 100;", 2, T + 91);
        Check.faulty(TWO + many("pay g h 1 1;", 10) + "pay g g 1 1;", 2, T + 120);
        Check.faulty(many("sieve 3;", 6) + "\nsieve 0;", 2, 49);
    }

    private static void openBrackets() {
        Check.sentence("a ninth '(' open");
        Check.due("eight", flow("((((((((neck))))))))"), 3);
        Check.faulty("law flow (((((((((neck)))))))));", 2, 17);
        Check.faulty("law flow ((((((((1+(neck)))))))));", 2, 19);
        Check.faulty("law flow (((((((((", 2, 17);
        Check.due("eight twice", flow("((((((((1))))))))+((((((((neck))))))))"), 4);
        Check.due("nine in all, eight open", flow("(1)+((((((((neck))))))))"), 4);
        Check.due("eight in each law", lines("law flow ((((((((1))))))));law tax ((((((((1))))))));"), 2);
        Check.due("one closed, one opened at the innermost", flow("((((((((1)+(neck))))))))"), 4);
        Check.faulty("law flow 1 (((((((((", 1, 11);
        Check.faulty("law flow ((((((((1 (", 1, 19);
    }

    private static void knots() {
        Check.sentence("a 65th KNOT of all E (N, NAMES, signs, not, and, or: one each)");
        String sixtyThree = "1" + many("+1", 31);
        Check.due("one each", Check.told("law flow 1 + neck <> 2 and not wet or 3 / 4;").count(4), 12);
        Check.due("64", Check.told("law flow not " + sixtyThree + ";").count(4), 64);
        Check.faulty("law flow not not " + sixtyThree + ";", 2, 17 + 62);
        Check.faulty("law flow " + sixtyThree + "+1;", 2, 9 + 64);
        Check.faulty("law flow " + sixtyThree + "+neck;", 2, 9 + 64);
        Check.faulty("law flow not " + sixtyThree + "<1;", 2, 13 + 63);
        Check.faulty("law flow not " + sixtyThree + "and 1;", 2, 13 + 63);
        Check.faulty("law flow not " + sixtyThree + "or 1;", 2, 13 + 63);
        Check.faulty("law flow " + sixtyThree + "or not 1;", 2, 9 + 63 + 3);
        Check.faulty("law flow " + sixtyThree + ";law tax not 1;", 2, 9 + 63 + 1 + 12);
        Check.due("of all E", Check.told("law flow " + sixtyThree + ";law wind 1;").count(4), 64);
        Check.faulty("law flow " + sixtyThree + ";law wind 1;law tax 1;", 2, 9 + 63 + 1 + 11 + 8);
        Check.due("two signs are one KNOT", Check.told("law flow 1<=2;law tax 1<>2;law wind 1>=2;").count(4), 9);
        Check.due("brackets are none", Check.told("law flow ((((((((" + sixtyThree + "))))))));").count(4), 63);
    }

    private static void toldAlready() {
        Check.sentence("3 told already: a name of its kind (at W)");
        Check.faulty("man a;man  a;", 3, 11);
        Check.faulty("man a;man b;man a", 3, 16);
        Check.faulty(TWO + "glass h a 1 1 1 1;", 3, T + 6);
        Check.faulty(TWO + "glass g x 1 1 1 1;", 3, T + 6);
        Check.due("names that begin alike", lines("man a;man aa;man ab;man b;man ba;"), 5);
        Check.sentence("damp, seed (at the word)");
        Check.faulty("damp 1; damp 1;", 3, 8);
        Check.faulty("seed 1; seed 1;", 3, 8);
        Check.faulty("damp 0;seed 0;damp", 3, 14);
        Check.faulty("damp 0;seed 0;seed x", 3, 14);
        Check.due("each once", lines("seed 1;damp 1;"), 2);
        Check.sentence("a law of its LAW (at LAW)");
        for (String law : new String[] {"flow", "tax", "wind"}) {
            String text = "law " + law + " 1;";
            Check.faulty(text + "law  " + law + " 2;", 3, text.length() + 5);
            Check.faulty(text + "law " + law, 3, text.length() + 4);
        }
        Check.faulty("law flow 1;law tax 1;law wind 1;law tax (", 3, 36);
    }

    private static void notToldAhead() {
        Check.sentence("4 a PERSON, a GLASS that isn't told ahead (at W).");
        Check.faulty("glass g a 1 1 1 1;man a;", 4, 8);
        Check.faulty("man a;glass g  b 1 1 1 1;man b;", 4, 15);
        Check.faulty("man a;glass g g 1 1 1 1;", 4, 14);
        Check.faulty("man a;turn g 0;glass g a 1 1 1 1;", 4, 11);
        Check.faulty("man a;turn a 0;", 4, 11);
        Check.faulty(TWO + "pay x h 1 1;", 4, T + 4);
        Check.faulty(TWO + "pay g x 1 1;", 4, T + 6);
        Check.faulty(TWO + "pay g a 1 1;", 4, T + 6);
        Check.faulty(TWO + "pay x", 4, T + 4);
        Check.faulty(TWO + "turn gg 1;", 4, T + 5);
    }

    private static void toItself() {
        Check.sentence("5 a PAYMENT from a GLASS to itself (at the second W).");
        Check.faulty(TWO + "pay g g 1 1;", 5, T + 6);
        Check.faulty(TWO + "pay h \n h 1 1;", 5, T + 8);
        Check.faulty(TWO + "pay g g 100 0", 5, T + 6);
        Check.faulty(TWO + "pay x x 1 1;", 4, T + 4);
        Check.due("there and back", lines(TWO + "pay g h 1 1;pay h g 1 1;"), 5);
    }

    private static void firstOfAll() {
        Check.sentence("FAULTS, the first along the text");
        Check.faulty("man a;man a;!", 3, 10);
        Check.faulty("man a;sieve 0;man a;", 2, 12);
        Check.faulty("glass g a 100 1 1 1;", 4, 8);
        Check.faulty("man a;glass g a 100 100 0 0", 2, 16);
        Check.faulty("damp 101;damp 101;", 2, 5);
        Check.faulty("turn g 100;!", 4, 5);
        Check.faulty("law flow 10000 ((((((((((", 2, 9);
        Check.faulty("law flow 1 2;law flow 1;", 1, 11);
        Check.sentence("(of one place the least)");
        String sixtyFour = "not 1" + many("+1", 31);
        Check.faulty("law flow " + sixtyFour.replaceFirst("\\+", "<") + "<1;", 1, 9 + sixtyFour.length());
        Check.faulty("law flow " + sixtyFour + " neck;", 1, 9 + sixtyFour.length() + 1);
        Check.faulty("law flow " + sixtyFour + ";law tax and;", 1, 9 + sixtyFour.length() + 9);
        Check.faulty("law flow " + sixtyFour + ";law tax 10000;", 2, 9 + sixtyFour.length() + 9);
        Check.faulty("man 99999999999;", 1, 4);
        Check.faulty("law flow ((((((((1(;", 1, 18);
    }

    private static void newObject() {
        Check.sentence("`SandHours()`: A TEXT without LINES; an empty TAPE.");
        SandHours x = new SandHours();
        for (int what = 0; what <= 13; what++) {
            Check.due("count(" + what + ")", x.count(what), 0);
        }
        Check.due("fault(0)", x.fault(0), 0);
        Check.due("fault(1)", x.fault(1), -1);
        Check.due("text(1)", x.text(1), -2);
        Check.due("text(0)", x.text(0), 0);
        Check.due("back", x.back(), -1);
        Check.due("undo", x.undo(), -1);
        Check.due("go", x.go(200), 200);
        Check.due("keep", x.keep(), 200);
        Check.due("back", x.back(), 200);
        Check.due("known(0)", x.known(0), true);
        Check.due("known(-1)", x.known(-1), true);
        Check.due("apart", x.apart(), 0);
        Check.due("tried", x.tried(4, 0, 200), 0);
    }

    private static void feeding() {
        Check.sentence("Twenty bytes come behind the TAPE, four of each number, the highest first: how many it has");
        SandHours x = new SandHours();
        Check.due("feed", x.feed(0x6d616e20, 0x6162633b, 0x6d616e20, 0x64203b20, 0x20202020), 20);
        Check.due("feed", x.feed(0x20202020, 0x20202020, 0x20202020, 0x20202020, 0x206d616e), 40);
        Check.due("feed", x.feed(0x20787978, 0x3b000000, -1, Integer.MIN_VALUE, Integer.MAX_VALUE), 60);
        Check.due("text(45)", x.text(45), 3);
        Check.due("abc", x.named(0, Check.letters("abc")), 0);
        Check.due("d", x.named(0, Check.letters("d")), 1);
        Check.due("xyx", x.named(0, Check.letters("xyx")), 2);
        for (int at = 0; at < 20; at++) {
            int[] five = {0x20202020, 0x20202020, 0x20202020, 0x20202020, 0x20202020};
            five[at / 4] ^= (0x20 ^ 0xff) << 24 - at % 4 * 8;
            SandHours y = new SandHours();
            y.feed(five[0], five[1], five[2], five[3], five[4]);
            Check.due("text", y.text(20), -1);
            Check.due("a byte 255 at " + at, y.fault(1), at);
        }
        Check.sentence("NONE, and none come, if it would have more than 700.");
        SandHours z = new SandHours();
        for (int k = 1; k <= 34; k++) {
            Check.due("feed", z.feed(0x20202020, 0x20202020, 0x20202020, 0x20202020, 0x20202020), 20 * k);
        }
        Check.due("just 700", z.feed(0x20202020, 0x20202020, 0x20202020, 0x20206d61, 0x6e20613b), 700);
        Check.due("720", z.feed(-1, -1, -1, -1, -1), -1);
        Check.due("720 again", z.feed(-1, -1, -1, -1, -1), -1);
        Check.due("none came", z.text(701), -2);
        Check.due("the 700 are as they were", z.text(700), 1);
        Check.due("it is empty then", z.feed(0x6d616e20, 0x623b2020, 0x20202020, 0x20202020, 0x20202020), 20);
        Check.due("and begins anew", z.text(20), 1);
        Check.due("b", z.named(0, Check.letters("b")), 0);
    }

    private static void readingOfTheTape() {
        Check.sentence("The TAPE's first n bytes (it is empty then) are the TEXT");
        SandHours x = new SandHours();
        Check.feed(x, "man a;man b;man c;man d;");
        Check.due("12 of them", x.text(12), 2);
        Check.due("the others are gone", x.text(1), -2);
        Check.due("feed", x.feed(0, 0, 0, 0, 0), 20);
        Check.due("none of them", x.text(0), 0);
        Check.due("a text without lines", x.count(0), 0);
        Check.due("empty again", x.feed(0, 0, 0, 0, 0), 20);
        Check.due("with a fault", x.text(20), -1);
        Check.due("empty then, too", x.text(1), -2);
        Check.due("none", x.text(0), 0);
        Check.sentence("how many LINES");
        Check.due("none", lines(" \n "), 0);
        Check.due("ten", lines("man a;glass g a 1 2 3 4;glass h a 1 2 3 4;turn g 0;pay g h 0 1;sieve 1;damp 1;seed 1;law flow 1;law tax 1;"), 10);
        String most = glasses(8) + many("turn a 1;", 10) + many("pay a b 1 1;", 10) + many("sieve 1;", 6)
                + "damp 1;seed 1;law flow 1;law tax 1;law wind 1;man b;man c;man d;man e;";
        Check.due("all that can be told", lines(most), 1 + 8 + 10 + 10 + 6 + 5 + 4);
    }

    private static void nothingOfTheOldOne() {
        Check.sentence("(MINUTE 0, all dry, nothing PAID, SEEN, all KNOWN, no IMAGE, nothing to undo then)");
        String text = "man a;glass g a 50 50 3 4;glass h a 1 6 7 8;damp 70;pay g h 1 60;pay h g 2 3;law tax 2;turn g 1;sieve 3;";
        String fresh = Check.picture(Check.told(text));
        SandHours x = Check.told(text);
        x.go(5);
        x.keep();
        x.flip(0);
        x.pour(0, 1, 2);
        x.dry(0);
        x.see(3, 0, 7, true);
        x.see(3, 0, 7, true);
        x.known(1);
        Check.due("taxed", x.count(8) > 0, true);
        Check.due("paid", x.count(7) > 0, true);
        Check.due("emptied", x.count(10) > 0, true);
        Check.due("text", Check.tell(x, text), 9);
        Check.same("as a new one", Check.picture(x), fresh);
        Check.due("no IMAGE", x.back(), -1);
        Check.due("nothing to undo", x.undo(), -1);
        x.see(3, 0, 999, true);
        Check.due("all KNOWN", x.necks(0), 0);
        Check.due("go", x.go(4), 4);
        SandHours y = Check.told(text);
        y.go(4);
        Check.due("numbers begin with the seed", x.wets(), y.wets());
        Check.due("without LINES", Check.tell(x, ""), 0);
        oldLinesAreGone();
        for (int what = 0; what <= 13; what++) {
            Check.due("count(" + what + ")", x.count(what), 0);
        }
    }

    private static void oldLinesAreGone() {
        String much = "man a;man b;glass g a 9 5 1 4;glass h a 1 6 7 8;damp 70;seed 12345;turn g 0;turn h 0;pay g h 0 4;sieve 5;"
                + "law flow 0;law tax 3;law wind 9;";
        String little = "man a;glass g a 9 5 1 4;glass h a 1 6 7 8;";
        SandHours x = Check.told(much);
        // what a text is read into may have been used by one of the two ahead of it
        for (int k = 0; k < 3; k++) {
            Check.due("little", Check.tell(x, little), 3);
            Check.due("one man", x.count(0), 1);
            Check.due("no PAYMENTS", x.count(2), 0);
            Check.due("no SIEVES", x.apart(), -2);
            Check.due("no KNOTS", x.count(4), 0);
            for (int what = 0; what <= 2; what++) {
                Check.due("no law " + what, x.law(what, 0), Long.MIN_VALUE);
            }
            x.go(1);
            Check.due("no TURNS, no law of flow", x.glass(0, 2), 6);
            x.go(9);
            Check.due("no law of wind", x.glass(0, 2), 14);
            Check.due("no TURNS, no PAYMENTS, no law of wind", x.glass(1, 2), 7);
            Check.due("no damp", x.wets(), 0);
        }
        Check.tell(x, much);
        for (int k = 0; k < 3; k++) {
            Check.due("damp alone", Check.tell(x, glasses(8) + "damp 40;"), 10);
            x.go(1);
            Check.due("no seed", x.wets(), drawn(0, 40));
        }
        for (int k = 0; k < 3; k++) {
            Check.due("it may be told again", Check.tell(x, much), 13);
        }
    }

    private static void withAFault() {
        Check.sentence("NONE with a FAULT, all stays");
        String text = "man a;glass g a 50 50 3 4;glass h a 5 6 7 8;damp 40;pay g h 1 60;law tax 2;law flow neck + minute;turn g 1;sieve 3;";
        SandHours x = Check.told(text);
        x.go(3);
        x.keep();
        x.go(2);
        x.see(3, 0, 7, true);
        x.see(3, 0, 700, true);
        x.known(1);
        x.flip(0);
        String before = Check.picture(x);
        String[] faulty = {"man b;man c;glass q b 1 1 1 1;damp 3;seed 9;law flow 1;law wind 9;pay q q 1 1;", "!", "man a;man a;", "law",
            "sieve 1;sieve 2;turn x 1;"};
        for (String t : faulty) {
            Check.due("text " + t, Check.tell(x, t), -1);
        }
        Check.same("as before", Check.picture(x), before);
        Check.due("named g", x.named(1, Check.letters("g")), 0);
        Check.due("undo", x.undo(), 0);
        Check.due("back", x.back(), 3);
        SandHours y = Check.told(text);
        y.go(3);
        x.go(6);
        y.go(6);
        Check.due("numbers go on", x.wets(), y.wets());
    }

    private static void notSoMany() {
        Check.sentence("-2, and the TAPE stays: there are not so many, n is below 0.");
        SandHours x = new SandHours();
        Check.due("none", x.text(1), -2);
        Check.feed(x, "man a;man b;        ");
        Check.due("21", x.text(21), -2);
        Check.due("-1", x.text(-1), -2);
        Check.due("least of all", x.text(Integer.MIN_VALUE), -2);
        Check.due("most of all", x.text(Integer.MAX_VALUE), -2);
        Check.due("701", x.text(701), -2);
        Check.due("behind it", Check.feed(x, "man c;"), 40);
        Check.due("nothing is told", x.count(0), 0);
        Check.due("41", x.text(41), -2);
        Check.due("40", x.text(40), 3);
    }

    private static void latestFault() {
        Check.sentence("Of the latest text() that was not -2, what 0: its FAULT (0), 1: its place (NONE without).");
        SandHours x = new SandHours();
        Check.tell(x, "man a;!");
        Check.due("-2", x.text(1), -2);
        Check.due("-2", x.text(-1), -2);
        Check.due("fault", x.fault(0), 1);
        Check.due("place", x.fault(1), 6);
        Check.tell(x, "!");
        Check.due("fault", x.fault(0), 1);
        Check.due("place 0", x.fault(1), 0);
        Check.tell(x, "man a;");
        Check.due("without", x.fault(0), 0);
        Check.due("without", x.fault(1), -1);
        Check.due("-2", x.text(1), -2);
        Check.due("without", x.fault(0), 0);
        Check.due("without", x.fault(1), -1);
        Check.tell(x, "damp 1;damp 1;");
        x.keep();
        x.go(1);
        x.back();
        Check.due("other calls leave it", x.fault(0), 3);
        Check.due("other calls leave it", x.fault(1), 7);
        Check.sentence("`int fault(int what)`: NONE for another what.");
        for (int what : new int[] {-1, 2, Integer.MIN_VALUE, Integer.MAX_VALUE}) {
            Check.due("fault(" + what + ")", x.fault(what), -1);
        }
    }

    private static void names() {
        Check.sentence("by its letters, 5 bits each (a is 1; the first one highest of six, 0 behind the last one)");
        SandHours x = Check.told("man a;man z;man abcdef;man zzzzzz;man ba;glass b a 1 1 1 1;glass zz a 1 1 1 1;");
        Check.due("a", x.named(0, 1 << 25), 0);
        Check.due("z", x.named(0, 26 << 25), 1);
        Check.due("abcdef", x.named(0, 1 << 25 | 2 << 20 | 3 << 15 | 4 << 10 | 5 << 5 | 6), 2);
        Check.due("zzzzzz", x.named(0, 26 << 25 | 26 << 20 | 26 << 15 | 26 << 10 | 26 << 5 | 26), 3);
        Check.due("ba", x.named(0, 2 << 25 | 1 << 20), 4);
        Check.due("glass b", x.named(1, 2 << 25), 0);
        Check.due("glass zz", x.named(1, 26 << 25 | 26 << 20), 1);
        Check.sentence("NONE: there is none such.");
        Check.due("no letters", x.named(0, 0), -1);
        Check.due("a glass's name", x.named(0, 2 << 25), -1);
        Check.due("a man's name", x.named(1, 1 << 25), -1);
        Check.due("at the low end", x.named(0, 1), -1);
        Check.due("behind the last one", x.named(0, 1 << 25 | 1), -1);
        Check.due("a gap", x.named(0, 2 << 25 | 1 << 15), -1);
        Check.due("letter 27", x.named(0, 27 << 25), -1);
        Check.due("letter 31", x.named(0, 31 << 25), -1);
        Check.due("beyond 30 bits", x.named(0, 1 << 25 | 1 << 30), -1);
        Check.due("below 0", x.named(0, 1 << 25 | 1 << 31), -1);
        Check.due("-1", x.named(0, -1), -1);
        Check.due("what 2", x.named(2, 1 << 25), -1);
        Check.due("what -1", x.named(-1, 1 << 25), -1);
        Check.due("of a new one", new SandHours().named(0, 0), -1);
        Check.due("of a new one", new SandHours().named(1, 0), -1);
        Check.due("another text", Check.tell(x, "man q;"), 1);
        Check.due("no more", x.named(0, 1 << 25), -1);
        Check.due("no more", x.named(1, 2 << 25), -1);
    }
}
