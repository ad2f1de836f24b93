/** Promises 6 to 13, and 40 to 43: what is now, what goes by, what is done by call and undone. */
public final class MinuteTest {
    public static void main(String[] args) {
        glassesAndMen();
        payments();
        tax();
        bounds();
        values();
        lawsNow();
        damp();
        flow();
        wind();
        turns();
        flipping();
        pouring();
        drying();
        undoing();
        images();
        going();
        Check.end();
    }

    private static void glassesAndMen() {
        SandHours x = Check.told("man p;man q;glass a q 10 5 2 3;glass b p 20 0 3 5;");
        int[] want = {1, 10, 5, 2, 3, 0, 0, 0};
        for (int what = 0; what < 8; what++) {
            Check.due("glass(0, " + what + ")", x.glass(0, what), want[what]);
        }
        Check.due("glass(2, 0) throws", Check.thrown(x, 2, 0), 1);
        Check.due("glass(-1, 0) throws", Check.thrown(x, -1, 0), 1);
        Check.due("glass(0, 8) throws", Check.thrown(x, 0, 8), 2);
        Check.due("glass(0, -1) throws", Check.thrown(x, 0, -1), 2);
        Check.due("glass(9, 9) throws", Check.thrown(x, 9, 9), 1);
        Check.due("man(0, 0)", x.man(0, 0), 20);
        Check.due("man(1, 0)", x.man(1, 0), 15);
        Check.due("man(0, 1)", x.man(0, 1), 2);
        Check.due("man(1, 1)", x.man(1, 1), 1);
        Check.due("man(1, 2)", x.man(1, 2), 0);
        Check.due("man(2, 0)", x.man(2, 0), -1);
        Check.due("man(-1, 0)", x.man(-1, 0), -1);
        Check.due("man(0, 3)", x.man(0, 3), -1);
        Check.due("man(0, -1)", x.man(0, -1), -1);
    }

    private static void payments() {
        SandHours x = Check.told("man p;glass a p 0 10 1 1;glass b p 0 0 1 1;pay a b 1 6;pay a b 1 6;pay b a 0 1;");
        int[] want = {0, 1, 1, 6, 0};
        for (int what = 0; what < 5; what++) {
            Check.due("payment(0, " + what + ")", x.payment(0, what), want[what]);
        }
        Check.due("payment(2, 0)", x.payment(2, 0), 1);
        Check.due("payment(3, 0)", x.payment(3, 0), -1);
        Check.due("payment(-1, 0)", x.payment(-1, 0), -1);
        Check.due("payment(0, 5)", x.payment(0, 5), -1);
        Check.due("payment(0, -1)", x.payment(0, -1), -1);
        Check.due("go", x.go(1), 1);
        Check.due("nothing below is short", x.payment(2, 4), 2);
        Check.due("not yet", x.payment(0, 4), 0);
        Check.due("toCome", x.toCome(), 3);
        x.go(1);
        Check.due("all paid", x.payment(0, 4), 1);
        Check.due("short", x.payment(1, 4), 2);
        Check.due("toCome", x.toCome(), 0);
        Check.due("paid", x.glass(0, 7), 10);
        Check.due("below", x.glass(0, 2), 0);
        Check.due("10 came, 1 ran", x.glass(1, 1), 9);
        Check.due("short ones", x.count(9), 2);
        Check.due("paid by all", x.count(7), 10);
    }

    private static SandHours taxedBy(String law) {
        SandHours x = Check.told("man p;glass a p 7 50 1 6;glass b p 0 0 9 1;pay a b 0 20;law tax " + law + ";");
        x.go(1);
        return x;
    }

    private static void tax() {
        SandHours x = taxedBy("(below = 50) * 3 + (paid = 20) * 4");
        Check.due("below and paid with this time's", x.count(8), 7);
        Check.due("13 came, 9 ran", x.glass(1, 1), 4);
        Check.due("all 20 are paid", x.glass(0, 7), 20);
        Check.due("of the one that pays", taxedBy("(above = 7) + (neck = 1) + (coarse = 6)").count(8), 3);
        Check.due("no more than there are", taxedBy("500").count(8), 20);
        Check.due("0 at least", taxedBy("0 - 5").count(8), 0);
        Check.due("none with an error", taxedBy("5 / wet").count(8), 0);
        SandHours y = Check.told("man p;glass a p 0 99 1 1;glass b p 0 0 9 1;pay a b 0 99;law tax 9999;");
        y.go(1);
        Check.due("all of 99", y.count(8), 99);
    }

    /** Glass 1 has 999 above and 99 below, glass 0 has 99 both. */
    private static SandHours brimful(String more) {
        StringBuilder t = new StringBuilder("man p;");
        for (char name = 'a'; name <= 'h'; name++) {
            t.append("glass ").append(name).append(" p 99 99 9 1;");
        }
        SandHours x = Check.told(t + more);
        for (int g = 2; g <= 7; g++) {
            Check.due("pour " + g, x.pour(g, 1, 99), 0);
            Check.due("flip " + g, x.flip(g), 0);
        }
        for (int g = 2; g <= 4; g++) {
            x.pour(g, 1, 99);
        }
        Check.due("above", x.glass(1, 1), 990);
        Check.due("more than 999", x.pour(5, 1, 10), -1);
        Check.due("just 999", x.pour(5, 1, 9), 90);
        return x;
    }

    private static void bounds() {
        SandHours x = brimful("law flow 0;pay a b 0 50;");
        int had = x.count(6);
        x.go(1);
        Check.due("999 at most above", x.glass(1, 1), 999);
        Check.due("what is more is lost", x.count(6), had - 50);
        Check.due("it is paid, not short", x.payment(0, 4), 1);
        Check.due("it is not taxed", x.count(8), 0);
        SandHours y = brimful("law flow 500;");
        had = y.count(6);
        y.go(10);
        Check.due("99 run in a minute", y.glass(1, 1), 9);
        Check.due("999 at most below", y.glass(1, 2), 999);
        Check.due("what is more is lost", y.count(6), had - 90);
        SandHours z = brimful("law flow 500;");
        Check.due("vigil has no such bound", z.vigil(1, 30), 2);
    }

    private static long value(String law) {
        return Check.told("man p;glass a p 17 50 3 6;law wind " + law + ";").law(2, 0);
    }

    private static void values() {
        Check.due("names", value("above + below * 100 + neck * 9000 - coarse + wet + paid + minute"), 17 + 5000 + 27000 - 6);
        Check.due("- is to the left", value("10 - 3 - 2"), 5);
        Check.due("/ is to the left", value("100 / 7 / 2"), 7);
        Check.due("* and / ahead of +", value("1 + 2 * 3 - 8 / 4"), 5);
        Check.due("/ towards 0", value("(0 - 7) / 2"), -3);
        Check.due("/ towards 0", value("7 / (0 - 2)"), -3);
        Check.due("<", value("(2 < 3) + (3 < 3) * 10 + (4 < 3) * 100"), 1);
        Check.due("<=", value("(2 <= 3) + (3 <= 3) * 10 + (4 <= 3) * 100"), 11);
        Check.due("=", value("(2 = 3) + (3 = 3) * 10 + (4 = 3) * 100"), 10);
        Check.due("<>", value("(2 <> 3) + (3 <> 3) * 10 + (4 <> 3) * 100"), 101);
        Check.due(">=", value("(2 >= 3) + (3 >= 3) * 10 + (4 >= 3) * 100"), 110);
        Check.due(">", value("(2 > 3) + (3 > 3) * 10 + (4 > 3) * 100"), 100);
        Check.due("and", value("(5 and 6) + (5 and 0) * 10 + (0 and 5) * 100 + (0 and 0) * 1000"), 1);
        Check.due("or", value("(5 or 6) + (5 or 0) * 10 + (0 or 5) * 100 + (0 or 0) * 1000"), 111);
        Check.due("not", value("(not 5) + (not 0) * 10 + (not not 7) * 100"), 110);
        Check.due("not is looser than <", value("not 5 < 3"), 1);
        Check.due("not is tighter than and", value("not 0 and 0"), 0);
        Check.due("and is tighter than or", value("1 or 0 and 0"), 1);
        Check.due("> is tighter than or", value("1 or 5 > 9"), 1);
        Check.due("< is looser than +", value("1 + 1 < 3"), 1);
        Check.due("10 to the 12", value("1000 * 1000 * 1000 * 1000"), 1000000000000L);
        Check.due("above it", value("1000 * 1000 * 1000 * 1000 + 1"), Long.MIN_VALUE);
        Check.due("below it", value("0 - 1000 * 1000 * 1000 * 1000"), -1000000000000L);
        Check.due("further below it", value("0 - 1000 * 1000 * 1000 * 1000 - 1"), Long.MIN_VALUE);
        Check.due("far above it", value("1000*1000*1000*1000*(1000*1000*1000*1000)"), Long.MIN_VALUE);
        Check.due("more than an int", value("4096 * 4096 * 128"), 2147483648L);
        Check.due("so far that a long would be 0", value("(4096*4096*128)*(4096*4096*512)"), Long.MIN_VALUE);
        Check.due("as many signs wait as can", value("((((((((" + "not ".repeat(63) + "5))))))))"), 0);
        Check.due("an error is one for all", value("0 * (9999*9999*9999*9999)"), Long.MIN_VALUE);
        Check.due("/ by 0", value("1 / 0"), Long.MIN_VALUE);
        Check.due("both sides of or", value("1 or 1 / 0"), Long.MIN_VALUE);
        Check.due("both sides of and", value("0 and 1 / 0"), Long.MIN_VALUE);
    }

    private static void lawsNow() {
        SandHours x = Check.told("man p;glass a p 17 50 3 6;glass b p 0 0 1 1;law flow minute * 1000 + paid;law tax 0 - 200;");
        Check.due("law(0, 0)", x.law(0, 0), 0);
        x.pour(0, 1, 5);
        x.go(3);
        Check.due("law(0, 0) later", x.law(0, 0), 3005);
        Check.due("law(1, 0)", x.law(1, 0), -200);
        Check.due("no such law", x.law(2, 0), Long.MIN_VALUE);
        Check.due("no such what", x.law(3, 0), Long.MIN_VALUE);
        Check.due("no such what", x.law(-1, 0), Long.MIN_VALUE);
        Check.due("no such glass", x.law(0, 2), Long.MIN_VALUE);
        Check.due("no such glass", x.law(0, -1), Long.MIN_VALUE);
    }

    private static void damp() {
        // seed 0: the numbers are 0, 21468, 9988, 22117, 3498
        String two = "man p;glass a p 50 0 5 1;glass b p 50 0 1 1;";
        SandHours x = Check.told(two + "damp 30;");
        x.go(1);
        Check.due("0 is below 30, 68 is not", x.wets(), 1);
        Check.due("half of the neck, cut", x.glass(0, 2), 2);
        x.go(1);
        Check.due("a wet one draws no number: 88", x.wets(), 1);
        x.go(1);
        Check.due("17 is below 30", x.wets(), 3);
        Check.due("wet", x.glass(1, 5), 1);
        Check.due("man(0, 2)", x.man(0, 2), 3);
        SandHours y = Check.told(two + "damp 68;");
        y.go(1);
        Check.due("68 is not below 68", y.wets(), 1);
        SandHours z = Check.told(two + "damp 69;");
        z.go(1);
        Check.due("68 is below 69", z.wets(), 3);
        SandHours all = Check.told(two + "damp 100;");
        all.go(1);
        Check.due("damp 100", all.wets(), 3);
        SandHours none = Check.told(two);
        none.go(50);
        Check.due("damp 0", none.wets(), 0);
        SandHours seeded = Check.told(two + "damp 30;seed 12345;");
        seeded.go(1);
        Check.due("another seed: 21468, 9988", seeded.wets(), 0);
        seeded.go(1);
        Check.due("22117, 3498", seeded.wets(), 1);
    }

    private static void flow() {
        SandHours x = Check.told("man p;glass a p 7 1 3 1;glass b p 0 5 3 1;");
        x.go(2);
        Check.due("neck each minute", x.glass(0, 1), 1);
        Check.due("not emptied", x.glass(0, 6), 0);
        x.go(1);
        Check.due("no more than are above", x.glass(0, 2), 8);
        Check.due("emptied", x.glass(0, 6), 1);
        x.go(5);
        Check.due("emptied once", x.glass(0, 6), 1);
        Check.due("never emptied", x.glass(1, 6), 0);
        SandHours y = Check.told("man p;glass a p 90 1 3 1;damp 100;law flow minute * 4;");
        y.go(3);
        Check.due("0, 4, 8 run, wet or not", y.glass(0, 2), 13);
        SandHours z = Check.told("man p;glass a p 90 1 3 1;damp 100;law flow 9 / (minute - 1);");
        z.go(3);
        Check.due("0, half the neck with an error, 9", z.glass(0, 2), 1 + 0 + 1 + 9);
        SandHours low = Check.told("man p;glass a p 90 1 3 1;law flow 0 - 9;");
        low.go(3);
        Check.due("0 at least", low.glass(0, 2), 1);
        SandHours one = Check.told("man p;glass a p 90 1 1 1;damp 100;");
        one.go(9);
        Check.due("half of 1 is none", one.glass(0, 2), 1);
    }

    private static void wind() {
        SandHours x = Check.told("man p;glass a p 0 90 3 1;glass b p 0 2 3 4;law wind coarse + (minute = 9) * 5;");
        x.go(9);
        Check.due("not yet", x.count(6), 92);
        x.go(1);
        Check.due("behind minute 9", x.glass(0, 2), 84);
        Check.due("0 at least", x.glass(1, 2), 0);
        x.go(9);
        Check.due("not yet again", x.glass(0, 2), 84);
        x.go(1);
        Check.due("behind minute 19", x.glass(0, 2), 83);
        Check.due("wind is no tax", x.count(8), 0);
        SandHours e = Check.told("man p;glass a p 0 90 3 1;law wind 1 / 0;");
        e.go(10);
        Check.due("none with an error", e.count(6), 90);
        SandHours low = Check.told("man p;glass a p 0 90 3 1;law wind 0 - 5;");
        low.go(10);
        Check.due("none below 0", low.count(6), 90);
    }

    private static void turns() {
        SandHours x = Check.told("man p;glass a p 0 9 2 1;glass b p 0 0 1 1;turn a 1;pay a b 1 5;turn a 2;turn a 2;");
        x.go(1);
        Check.due("not yet", x.glass(0, 2), 9);
        x.go(1);
        Check.due("turned ahead of the payment, which is short", x.payment(0, 4), 2);
        Check.due("two ran", x.glass(0, 2), 2);
        x.go(1);
        Check.due("turned twice", x.glass(0, 1), 5);
    }

    private static void flipping() {
        SandHours x = Check.told("man p;glass a p 4 9 2 1;");
        Check.due("flip", x.flip(0), 9);
        Check.due("below", x.glass(0, 2), 4);
        Check.due("flip(1)", x.flip(1), -1);
        Check.due("flip(-1)", x.flip(-1), -1);
        Check.due("one to undo", x.count(13), 1);
    }

    private static void pouring() {
        SandHours x = Check.told("man p;glass a p 4 9 2 1;glass b p 1 3 2 1;law tax 5;");
        Check.due("pour", x.pour(0, 1, 6), 3);
        Check.due("above of the other, no tax", x.glass(1, 1), 7);
        Check.due("paid", x.glass(0, 7), 6);
        Check.due("not so many", x.pour(0, 1, 4), -2);
        Check.due("all", x.pour(0, 1, 3), 0);
        Check.due("none", x.pour(1, 0, 0), -1);
        Check.due("1000", x.pour(1, 0, 1000), -1);
        Check.due("999", x.pour(1, 0, 999), -2);
        Check.due("below 0", x.pour(1, 0, -1), -1);
        Check.due("alike", x.pour(1, 1, 1), -1);
        Check.due("no such one", x.pour(2, 1, 1), -1);
        Check.due("no such other", x.pour(1, -1, 1), -1);
        Check.due("count(7)", x.count(7), 9);
        Check.due("two to undo", x.count(13), 2);
    }

    private static void drying() {
        SandHours x = Check.told("man p;glass a p 4 9 2 1;damp 100;");
        Check.due("it is dry", x.dry(0), false);
        x.go(1);
        Check.due("it is wet", x.dry(0), true);
        Check.due("it is dry now", x.dry(0), false);
        Check.due("wet", x.glass(0, 5), 0);
        Check.due("dry(1)", x.dry(1), false);
        Check.due("dry(-1)", x.dry(-1), false);
        Check.due("undo", x.undo(), 0);
        Check.due("wet again", x.wets(), 1);
        x.dry(0);
        x.go(1);
        Check.due("it grows wet once more", x.wets(), 1);
    }

    private static void undoing() {
        SandHours x = Check.told("man p;glass a p 4 9 2 1;glass b p 1 3 2 1;");
        Check.due("nothing", x.undo(), -1);
        x.flip(0);
        x.pour(1, 0, 2);
        x.pour(1, 0, 9);
        x.flip(7);
        Check.due("go(0)", x.go(0), 0);
        Check.due("no minute went by", x.count(13), 2);
        Check.due("undo", x.undo(), 1);
        Check.due("below", x.glass(1, 2), 3);
        Check.due("above", x.glass(0, 1), 9);
        Check.due("paid", x.glass(1, 7), 0);
        Check.due("undo", x.undo(), 0);
        Check.due("above", x.glass(0, 1), 4);
        Check.due("nothing left", x.undo(), -1);
        x.flip(0);
        Check.due("go(201)", x.go(201), -1);
        Check.due("still", x.count(13), 1);
        x.go(1);
        Check.due("a minute went by", x.undo(), -1);
        theLatestTwenty();
    }

    private static void theLatestTwenty() {
        SandHours x = Check.told("man p;glass a p 90 91 2 1;glass b p 80 81 2 1;glass c p 70 71 2 1;damp 100;");
        x.go(1);
        int[][] after = new int[31][];
        after[0] = all(x);
        for (int k = 1; k <= 30; k++) {
            if (k % 10 == 4) {
                Check.due("dry", x.dry(k / 10), true);
            } else if (k % 3 == 0) {
                x.flip(k % 7 % 3);
            } else {
                Check.due("pour", x.pour(k % 3, (k + 1 + k % 2) % 3, 1 + k % 5) >= 0, true);
            }
            after[k] = all(x);
        }
        Check.due("20 at most", x.count(13), 20);
        for (int k = 29; k >= 10; k--) {
            Check.due("undo", x.undo(), k - 10);
            Check.due("as it was behind " + k, java.util.Arrays.equals(all(x), after[k]), true);
        }
        Check.due("no more", x.undo(), -1);
    }

    private static int[] all(SandHours x) {
        int[] all = new int[3 * 8];
        for (int k = 0; k < all.length; k++) {
            all[k] = x.glass(k / 8, k % 8);
        }
        return all;
    }

    private static void images() {
        SandHours x = Check.told("man p;glass a p 40 9 2 1;glass b p 1 3 2 1;damp 30;pay a b 2 3;law tax 1;");
        Check.due("none yet", x.back(), -1);
        x.go(1);
        x.flip(0);
        Check.due("keep", x.keep(), 1);
        Check.due("keeping leaves what can be undone", x.count(13), 1);
        x.go(5);
        int wet = x.wets();
        int above = x.glass(0, 1);
        Check.due("paid", x.payment(0, 4), 1);
        Check.due("taxed", x.count(8), 1);
        x.see(1, 0, 1, true);
        Check.due("back", x.back(), 1);
        Check.due("nothing to undo", x.undo(), -1);
        Check.due("not paid", x.payment(0, 4), 0);
        Check.due("not taxed", x.count(8), 0);
        Check.due("what was seen stays", x.count(11), 1);
        x.go(5);
        Check.due("the same numbers again", x.wets(), wet);
        Check.due("the same sand again", x.glass(0, 1), above);
        Check.due("in place of one ahead", x.keep(), 6);
        x.go(1);
        Check.due("back", x.back(), 6);
        Check.due("back again", x.back(), 6);
    }

    private static void going() {
        SandHours x = Check.told("man p;glass a p 40 9 2 1;");
        Check.due("go(-1)", x.go(-1), -1);
        Check.due("go(201)", x.go(201), -1);
        Check.due("go(0)", x.go(0), 0);
        for (int k = 1; k <= 45; k++) {
            Check.due("go(200)", x.go(200), 200 * k);
        }
        Check.due("behind 9000", x.go(1), -1);
        Check.due("none does", x.count(5), 9000);
        Check.due("at 9000", x.go(0), 9000);
    }
}
