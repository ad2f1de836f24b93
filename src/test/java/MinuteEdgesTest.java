import java.math.BigInteger;

/** The edges that the document names of ==== 2, ==== 4 and promises 6 to 13, 40 to 43: each sentence has its own test. */
public final class MinuteEdgesTest {
    private static final int[] FAR = {Integer.MIN_VALUE, -2, -1, 8, 9, 1000, Integer.MAX_VALUE};

    public static void main(String[] args) {
        turning();
        paying();
        taxing();
        comingTo();
        growingDamp();
        running();
        emptying();
        blowing();
        names();
        values();
        numbers();
        asItGoes();
        wealth();
        ofAGlass();
        ofAPerson();
        ofAPayment();
        ofALaw();
        flipping();
        pouring();
        drying();
        going();
        undoing();
        twentyAtMost();
        noMinuteSince();
        images();
        counts();
        refusedCalls();
        Check.end();
    }

    private static SandHours after(String text, int minutes) {
        SandHours x = Check.told(text);
        Check.due("go", x.go(minutes), minutes);
        return x;
    }

    private static void turning() {
        Check.sentence("(1) TURNS of this MINUTE, by their numbers: ABOVE and BELOW change places.");
        String text = "man p;glass a p 9 5 1 1;glass b p 0 0 1 1;law flow 0;";
        Check.due("in its MINUTE", after(text + "turn a 0;", 1).glass(0, 1), 5);
        Check.due("in its MINUTE", after(text + "turn a 0;", 1).glass(0, 2), 9);
        Check.due("not ahead of it", after(text + "turn a 1;", 1).glass(0, 1), 9);
        Check.due("not behind it once more", after(text + "turn a 0;", 200).glass(0, 1), 5);
        Check.due("twice in one", after(text + "turn a 0;turn a 0;", 1).glass(0, 1), 9);
        Check.due("three times in one", after(text + "turn a 0;turn a 0;turn a 0;", 1).glass(0, 1), 5);
        Check.due("ahead of (2)", after(text + "pay a b 0 9;turn a 0;", 1).payment(0, 4), 1);
        Check.due("ahead of (4)", after("man p;glass a p 0 5 1 1;turn a 0;", 1).glass(0, 1), 4);
    }

    /** Glass a pays b so many in MINUTE 0, and nothing runs. */
    private static SandHours paid(int below, int grains, String more) {
        return after("man p;glass a p 3 " + below + " 1 6;glass b p 0 0 2 5;law flow 0;pay a b 0 " + grains + ";" + more, 1);
    }

    private static void paying() {
        Check.sentence("(2) as many GRAINS as told, or as there are BELOW in the one that pays, are PAID from there");
        Check.due("as told", paid(20, 19, "").glass(0, 7), 19);
        Check.due("one is left", paid(20, 19, "").glass(0, 2), 1);
        Check.due("just all", paid(20, 20, "").glass(0, 7), 20);
        Check.due("none is left", paid(20, 20, "").glass(0, 2), 0);
        Check.due("as there are", paid(20, 21, "").glass(0, 7), 20);
        Check.due("none is left, and not less", paid(20, 99, "").glass(0, 2), 0);
        Check.due("none at all", paid(0, 1, "").glass(0, 7), 0);
        Check.due("those ABOVE stay", paid(0, 1, "").glass(0, 1), 3);
        Check.due("they are ABOVE in the other one", paid(20, 20, "").glass(1, 1), 20);
        Check.sentence("Not so many as told: it is SHORT.");
        Check.due("one more than told", paid(21, 20, "").payment(0, 4), 1);
        Check.due("just as many", paid(20, 20, "").payment(0, 4), 1);
        Check.due("one less", paid(19, 20, "").payment(0, 4), 2);
        Check.due("none", paid(0, 1, "").payment(0, 4), 2);
        Check.due("all TAXED isn't SHORT", paid(20, 20, "law tax 99;").payment(0, 4), 1);
        Check.due("a count of them", paid(19, 20, "pay b a 0 1;pay a b 1 1;").count(9), 2);
        Check.sentence("PAYMENTS of this MINUTE, by their numbers");
        SandHours x = paid(20, 15, "pay a b 0 15;pay a b 1 1;");
        Check.due("the first has all", x.payment(0, 4), 1);
        Check.due("the second has what is left", x.payment(1, 4), 2);
        Check.due("what came is ABOVE, it isn't paid on", paid(20, 15, "pay b a 0 1;").payment(1, 4), 2);
        Check.due("another MINUTE's is not yet", x.payment(2, 4), 0);
    }

    private static void taxing() {
        Check.sentence("E of tax (0 .. 99; 0 without, with an ERROR) of these, no more than there are, are TAXED and gone");
        Check.due("without", paid(50, 20, "").count(8), 0);
        Check.due("0", paid(50, 20, "law tax 0;").count(8), 0);
        Check.due("1", paid(50, 20, "law tax 1;").count(8), 1);
        Check.due("19", paid(50, 20, "law tax 19;").glass(1, 1), 1);
        Check.due("just all", paid(50, 20, "law tax 20;").glass(1, 1), 0);
        Check.due("no more than there are", paid(50, 20, "law tax 21;").count(8), 20);
        Check.due("no more than there are", paid(50, 20, "law tax 9999;").glass(1, 1), 0);
        Check.due("no more than are PAID", paid(5, 20, "law tax 19;").count(8), 5);
        Check.due("none of none", paid(0, 20, "law tax 19;").count(8), 0);
        Check.due("99", paid(99, 99, "law tax 99;").count(8), 99);
        Check.due("98", paid(99, 99, "law tax 98;").glass(1, 1), 1);
        Check.due("below 0 is as 0", paid(50, 20, "law tax 0 - 1;").count(8), 0);
        Check.due("below 0 is as 0", paid(50, 20, "law tax 0 - 9999;").glass(1, 1), 20);
        Check.due("with an ERROR", paid(50, 20, "law tax 7 / 0;").count(8), 0);
        Check.due("with an ERROR", paid(50, 20, "law tax 9999*9999*9999*9999;").glass(1, 1), 20);
        Check.due("gone", paid(50, 20, "law tax 7;").count(6), 53 - 7);
        Check.due("TAXED ones are PAID", paid(50, 20, "law tax 7;").count(7), 20);
        Check.due("in sum", paid(50, 20, "law tax 7;pay a b 0 5;pay a b 0 9;").count(8), 7 + 5 + 7);
    }

    private static void comingTo() {
        Check.sentence("the others are ABOVE in the other one (999 at most; what is more is lost)");
        // glass 1 has 999 above, 99 below; glass 2 has none
        for (int grains : new int[] {1, 9, 10, 99}) {
            SandHours x = Check.brimful("law flow 0;pay a b 0 " + grains + ";");
            x.flip(1);
            x.pour(1, 2, 10);
            x.flip(1);
            int had = x.count(6);
            Check.due("989 or 10 less", x.glass(1, 1), 989);
            x.go(1);
            Check.due("999 at most", x.glass(1, 1), Math.min(999, 989 + grains));
            Check.due("what is more is lost", x.count(6), had - Math.max(0, grains - 10));
            Check.due("all are PAID", x.payment(0, 4), 1);
            Check.due("from below", x.glass(0, 2), 99 - grains);
            Check.due("lost isn't TAXED", x.count(8), 0);
        }
        SandHours y = Check.brimful("law flow 0;law tax 30;pay a b 0 99;");
        int had = y.count(6);
        y.go(1);
        Check.due("TAXED first, then lost", y.count(8), 30);
        Check.due("both are gone", y.count(6), had - 99);
    }

    private static void growingDamp() {
        String three = "man p;glass a p 9 0 1 1;glass b p 9 0 1 1;glass c p 9 0 1 1;";
        Check.sentence("(3) by numbers each GLASS that is dry: a number modulo 100: below damp it is WET from now on.");
        // seed 0: 0, 21468, 9988, 22117, 3498
        Check.due("0 is below 1", after(three + "damp 1;", 1).wets(), 1);
        Check.due("68 isn't below 68", after(three + "damp 68;", 1).wets(), 1);
        Check.due("68 is below 69", after(three + "damp 69;", 1).wets(), 3);
        Check.due("88 isn't below 88", after(three + "damp 88;", 1).wets(), 3);
        Check.due("88 is below 89", after(three + "damp 89;", 1).wets(), 7);
        Check.due("a WET one has no number: b has 17, c 98", after(three + "damp 18;", 2).wets(), 3);
        Check.due("it has 17: it isn't below 17", after(three + "damp 17;", 2).wets(), 1);
        SandHours dried = after(three + "damp 18;", 1);
        dried.dry(0);
        dried.go(1);
        Check.due("a dried one has one: a 17", dried.wets(), 1);
        Check.sentence("(no number, if damp is 0 or 100)");
        Check.due("0: never", after(three + "damp 0;", 200).wets(), 0);
        Check.due("without: never", after(three, 200).wets(), 0);
        Check.due("100: all at once", after(three + "damp 100;", 1).wets(), 7);
        Check.due("none yet", after(three + "damp 100;", 0).wets(), 0);
        Check.due("ahead of (4)", after("man p;glass a p 9 0 8 1;damp 100;", 1).glass(0, 2), 4);
        Check.due("behind (2)", after("man p;glass a p 9 9 8 1;glass b p 0 0 1 1;pay a b 0 9;law tax wet;damp 100;", 1).count(8), 0);
    }

    private static int ran(int above, int neck, String more) {
        return after("man p;glass a p " + above + " 0 " + neck + " 1;" + more, 1).glass(0, 2);
    }

    private static void running() {
        Check.sentence("(4) E of flow (0 .. 99; NECK, if it is WET half of it, cut, without, with an ERROR), or as many as are ABOVE");
        Check.due("NECK without", ran(50, 9, ""), 9);
        Check.due("NECK 1", ran(50, 1, ""), 1);
        Check.due("half of 9, cut", ran(50, 9, "damp 100;"), 4);
        Check.due("half of 8", ran(50, 8, "damp 100;"), 4);
        Check.due("half of 2", ran(50, 2, "damp 100;"), 1);
        Check.due("half of 1, cut", ran(50, 1, "damp 100;"), 0);
        Check.due("NECK with an ERROR", ran(50, 9, "law flow 1 / 0;"), 9);
        Check.due("half of it with an ERROR", ran(50, 9, "law flow 1 / 0;damp 100;"), 4);
        Check.due("E, WET or not", ran(50, 9, "law flow 20;damp 100;"), 20);
        Check.due("0", ran(50, 9, "law flow 0;"), 0);
        Check.due("below 0 is as 0", ran(50, 9, "law flow 0 - 1;"), 0);
        Check.due("just as many as are ABOVE", ran(50, 9, "law flow 50;"), 50);
        Check.due("as many as are ABOVE", ran(50, 9, "law flow 51;"), 50);
        Check.due("as many as are ABOVE", ran(8, 9, ""), 8);
        Check.due("99", ran(99, 9, "law flow 99;"), 99);
        int[][] asked = {{98, 98}, {99, 99}, {100, 99}, {9999, 99}};
        for (int[] a : asked) {
            SandHours x = Check.brimful("law flow " + a[0] + ";");
            x.go(1);
            Check.due("no more than 99 by E " + a[0], x.glass(1, 1), 999 - a[1]);
        }
        Check.sentence("run from ABOVE to BELOW (999 at most there; what is more is lost)");
        int[] lostAt = {0, 0, 1, 90};
        for (int k = 0; k < 4; k++) {
            int below = k == 3 ? 99 : 8 + k;
            SandHours x = Check.brimful("law flow 99;");
            if (below < 99) {
                x.pour(1, 2, 99 - below);
            }
            Check.due("below", x.glass(1, 2), below);
            x.go(10);
            Check.due("above", x.glass(1, 1), 9);
            Check.due("999 at most", x.glass(1, 2), Math.min(999, below + 990));
            Check.due("what is more is lost", 999 + below - x.glass(1, 1) - x.glass(1, 2), lostAt[k]);
            x.go(1);
            Check.due("those are lost, too", x.glass(1, 1), 0);
            Check.due("999 still, or as many as there are", x.glass(1, 2), Math.min(999, below + 999));
        }
    }

    private static void emptying() {
        Check.sentence("if none is ABOVE then and there was, it is EMPTIED once more.");
        Check.due("one is left", after("man p;glass a p 10 0 9 1;", 1).glass(0, 6), 0);
        Check.due("none is left", after("man p;glass a p 9 0 9 1;", 1).glass(0, 6), 1);
        Check.due("none was", after("man p;glass a p 0 9 9 1;", 1).glass(0, 6), 0);
        Check.due("once", after("man p;glass a p 9 0 9 1;", 99).glass(0, 6), 1);
        Check.due("once more", after("man p;glass a p 9 0 9 1;turn a 1;turn a 2;", 99).glass(0, 6), 3);
        Check.due("what came runs at once", after("man p;glass a p 0 0 9 1;glass b p 0 5 9 1;pay b a 0 5;", 1).glass(0, 6), 1);
        Check.due("turned to none isn't EMPTIED", after("man p;glass a p 9 0 9 1;turn a 0;", 1).glass(0, 6), 0);
        Check.due("though what ran is lost", emptiedBrimful(), 1);
        SandHours x = Check.told("man p;glass a p 9 0 9 1;");
        x.flip(0);
        Check.due("not by call", x.glass(0, 6), 0);
        Check.due("in all", after("man p;glass a p 9 0 9 1;glass b p 3 0 9 1;glass c p 30 0 9 1;turn a 1;", 2).count(10), 3);
    }

    private static int emptiedBrimful() {
        SandHours x = Check.brimful("law flow 99;");
        x.go(11);
        return x.glass(1, 6);
    }

    private static int blown(String wind, int below, int minutes) {
        return after("man p;glass a p 0 " + below + " 1 4;law wind " + wind + ";", minutes).glass(0, 2);
    }

    private static void blowing() {
        Check.sentence("(5) behind each tenth MINUTE (the MINUTE and 1 can be divided by 10)");
        Check.due("behind MINUTE 8", blown("1", 90, 9), 90);
        Check.due("behind MINUTE 9", blown("1", 90, 10), 89);
        Check.due("behind MINUTE 10", blown("1", 90, 11), 89);
        Check.due("behind MINUTE 18", blown("1", 90, 19), 89);
        Check.due("behind MINUTE 19", blown("1", 90, 20), 88);
        Check.due("behind MINUTE 199", blown("1", 90, 200), 70);
        Check.due("it is MINUTE 9 still", blown("minute", 90, 10), 81);
        Check.sentence("by numbers, each GLASS has BELOW less by E of wind (0 .. 99; 0 without, with an ERROR), 0 at least.");
        Check.due("without", after("man p;glass a p 0 90 1 4;", 10).glass(0, 2), 90);
        Check.due("with an ERROR", blown("1 / 0", 90, 10), 90);
        Check.due("0", blown("0", 90, 10), 90);
        Check.due("below 0 is as 0", blown("0 - 1", 90, 10), 90);
        Check.due("one is left", blown("89", 90, 10), 1);
        Check.due("none is left", blown("90", 90, 10), 0);
        Check.due("0 at least", blown("91", 90, 10), 0);
        Check.due("0 at least", blown("99", 0, 10), 0);
        int[][] asked = {{98, 98}, {99, 99}, {100, 99}, {9999, 99}};
        for (int[] a : asked) {
            SandHours x = Check.brimful("law flow 0;law wind " + a[0] + ";");
            x.flip(1);
            x.go(10);
            Check.due("no more than 99 by E " + a[0], x.glass(1, 2), 999 - a[1]);
        }
        SandHours y = after("man p;glass a p 0 90 1 4;glass b p 9 50 1 2;law wind coarse;law flow 0;", 10);
        Check.due("each GLASS", y.glass(0, 2), 86);
        Check.due("each GLASS", y.glass(1, 2), 48);
        Check.due("those ABOVE stay", y.glass(1, 1), 9);
        Check.due("behind (4)", after("man p;glass a p 10 0 1 4;law wind below / 2;", 10).glass(0, 2), 5);
        Check.due("what wind takes isn't TAXED", y.count(8), 0);
        Check.sentence("Then it is the next MINUTE.");
        Check.due("1", after("", 1).count(5), 1);
        Check.due("200", after("", 200).count(5), 200);
    }

    private static void names() {
        Check.sentence("NAMES, of the GLASS: above, below, neck, coarse, wet, paid, minute");
        String two = "man p;glass a p 11 12 3 4;glass b p 21 22 5 6;damp 100;law flow 0;law wind ";
        String[] all = {"above", "below", "neck", "coarse", "wet", "paid", "minute"};
        int[][] want = {{11, 5, 3, 4, 1, 7, 1}, {28, 22, 5, 6, 1, 0, 1}};
        for (int n = 0; n < all.length; n++) {
            SandHours x = Check.told(two + all[n] + ";");
            x.pour(0, 1, 7);
            x.go(1);
            Check.due(all[n] + " of a", x.law(2, 0), want[0][n]);
            Check.due(all[n] + " of b", x.law(2, 1), want[1][n]);
        }
        Check.due("dry", Check.told("man p;glass a p 1 1 1 1;law wind wet;").law(2, 0), 0);
        Check.sentence("(of tax: of the one that pays, BELOW with what is PAID)");
        Check.due("above", paid(50, 20, "law tax above;").count(8), 3);
        Check.due("below", paid(50, 20, "law tax below - 40;").count(8), 10);
        Check.due("below with all of it", paid(20, 20, "law tax below - 13;").count(8), 7);
        Check.due("neck", paid(50, 20, "law tax neck;").count(8), 1);
        Check.due("coarse", paid(50, 20, "law tax coarse;").count(8), 6);
        Check.sentence("paid: GRAINS PAID by it so far (of tax this time, too)");
        Check.due("this time's", paid(50, 8, "law tax paid - 3;").count(8), 5);
        Check.due("this time's as there are", paid(5, 8, "law tax paid - 3;").count(8), 2);
        Check.due("and those ahead of it", paid(50, 8, "pay a b 0 9;law tax paid / 8;").count(8), 1 + 2);
        Check.due("not those that came to it", paid(50, 8, "law tax paid;law wind paid;").law(2, 1), 0);
        Check.sentence("(of tax) wet, minute");
        SandHours x = Check.told("man p;glass a p 0 50 1 1;glass b p 0 0 1 1;law flow 0;damp 100;law tax wet + minute;"
                + "pay a b 0 9;pay a b 1 9;pay a b 2 9;");
        x.go(3);
        Check.due("0, then 1 + 1, then 1 + 2", x.count(8), 0 + 2 + 3);
    }

    private static long value(String law) {
        return Check.told("man p;glass a p 17 50 3 6;law wind " + law + ";").law(2, 0);
    }

    private static void values() {
        long error = Long.MIN_VALUE;
        String most = "1000*1000*1000*1000";
        Check.sentence("VALUES are longs");
        Check.due("2 to the 31", value("4096*4096*128"), 1L << 31);
        Check.due("2 to the 32", value("4096*4096*256"), 1L << 32);
        Check.due("2 to the 32 is more than 1", value("4096*4096*256 > 1"), 1);
        Check.due("2 to the 32 isn't 0", value("4096*4096*256 and 1"), 1);
        Check.due("2 to the 32 isn't 0", value("not (4096*4096*256)"), 0);
        Check.sentence("comparisons, and, or, not are 1 or 0 (what isn't 0 is as 1, both sides are worked out)");
        Check.due("below 0 isn't 0", value("(0 - 5) and (0 - 7)"), 1);
        Check.due("below 0 isn't 0", value("not (0 - 5)"), 0);
        Check.due("or", value("0 or 0 - 7"), 1);
        Check.due("not not", value("not not 9"), 1);
        Check.due("=", value("(9 = 9) + (9 = 8) + (8 = 9)"), 1);
        Check.due("or with an ERROR", value("1 or 1 / 0"), error);
        Check.due("and with an ERROR", value("0 and 1 / 0"), error);
        Check.due("an ERROR ahead", value("1 / 0 and 0"), error);
        Check.due("not of an ERROR", value("not (1 / 0)"), error);
        Check.due("an ERROR compared", value("1 / 0 = 1 / 0"), error);
        Check.sentence("/ is cut towards 0");
        Check.due("7 / 2", value("7 / 2"), 3);
        Check.due("-7 / 2", value("(0 - 7) / 2"), -3);
        Check.due("7 / -2", value("7 / (0 - 2)"), -3);
        Check.due("-7 / -2", value("(0 - 7) / (0 - 2)"), 3);
        Check.due("1 / 2", value("1 / 2"), 0);
        Check.due("-1 / 2", value("(0 - 1) / 2"), 0);
        Check.sentence("ERROR: / by 0");
        Check.due("1 / 0", value("1 / 0"), error);
        Check.due("0 / 0", value("0 / 0"), error);
        Check.due("by what is 0", value("5 / (neck - 3)"), error);
        Check.due("0 times it", value("0 * (5 / wet)"), error);
        Check.due("0 / 1", value("0 / 1"), 0);
        Check.sentence("a value above 10 to the 12 or below 0 by more than that");
        Check.due("10 to the 12", value(most), 1000000000000L);
        Check.due("1 more", value(most + "+1"), error);
        Check.due("-3 times 2", value("(0 - 3) * 2"), -6);
        Check.due("2 times -3", value("2 * (0 - 3)"), -6);
        Check.due("-3 times -4", value("(0 - 3) * (0 - 4)"), 12);
        Check.due("0 times -4", value("0 * (0 - 4)"), 0);
        Check.due("-4 times 0", value("(0 - 4) * 0"), 0);
        Check.due("0 times it", value("0 * (" + most + ")"), 0);
        Check.due("1 times it", value("1 * (" + most + ")"), 1000000000000L);
        Check.due("-1 times it", value("(0 - 1) * (" + most + ")"), -1000000000000L);
        Check.due("1 less", value(most + "-1"), 999999999999L);
        Check.due("below 0 by it", value("0-" + most), -1000000000000L);
        Check.due("below 0 by 1 more", value("0-" + most + "-1"), error);
        Check.due("twice it", value(most + "+" + most), error);
        Check.due("less it", value(most + "-" + most), 0);
        Check.due("times -1", value(most + "*(0-1)"), -1000000000000L);
        Check.due("times 2", value(most + "*2"), error);
        Check.due("times -2", value(most + "*(0-2)"), error);
        Check.due("times itself", value(most + "*(" + most + ")"), error);
        Check.due("times itself below 0", value("(0-" + most + ")*(" + most + ")"), error);
        Check.due("both below 0", value("(0-" + most + ")*(0-" + most + ")"), error);
        Check.due("2 to the 64", value("(4096*4096*128)*(4096*4096*512)"), error);
        Check.due("below 0 by 2 to the 64", value("(4096*4096*128)*(0-4096*4096*512)"), error);
        Check.due("below 0 by 2 to the 64", value("(0-4096*4096*128)*(4096*4096*512)"), error);
        Check.due("2 to the 64 of two below 0", value("(0-4096*4096*128)*(0-4096*4096*512)"), error);
        Check.due("an ERROR inside, though it would be less", value("(" + most + "+1)/2"), error);
        Check.due("10 to the 12 and nothing", value("9999*9999*9999+9999*9999*2+9999*9999+9999*3+1"), 1000000000000L);
        Check.due("and 1", value("9999*9999*9999+9999*9999*2+9999*9999+9999*3+2"), error);
    }

    private static void numbers() {
        Check.sentence("Numbers are the last one (at first the seed) times 1103515245 and 12345, without what is above 31 bits, by 65536.");
        for (int seed : new int[] {0, 1, 77, 65535, 65536, 99999}) {
            StringBuilder t = new StringBuilder("man p;");
            for (char name = 'a'; name <= 'h'; name++) {
                t.append("glass ").append(name).append(" p 1 1 1 1;");
            }
            SandHours x = Check.told(t + "damp 7;seed " + seed + ";");
            BigInteger last = BigInteger.valueOf(seed);
            int wet = 0;
            for (int minute = 1; minute <= 30; minute++) {
                for (int g = 0; g < 8; g++) {
                    if ((wet >> g & 1) == 0) {
                        last = last.multiply(BigInteger.valueOf(1103515245)).add(BigInteger.valueOf(12345)).mod(BigInteger.TWO.pow(31));
                        wet |= last.divide(BigInteger.valueOf(65536)).intValue() % 100 < 7 ? 1 << g : 0;
                    }
                }
                x.go(1);
                Check.due("seed " + seed + " minute " + minute, x.wets(), wet);
            }
        }
    }

    private static void asItGoes() {
        Check.sentence("AS IT GOES: without numbers: all grow WET, if damp is 50 at least.");
        int[][] asked = {{0, 0}, {1, 0}, {49, 0}, {50, 1}, {51, 1}, {99, 1}, {100, 1}};
        for (int[] a : asked) {
            SandHours x = Check.told("man p;glass a p 90 0 8 1;glass b p 90 0 8 1;damp " + a[0] + ";");
            int each = a[1] == 1 ? 4 : 8;
            Check.due("a by damp " + a[0], x.ahead(3, 1, 0), 3 * each);
            Check.due("b by damp " + a[0], x.ahead(3, 1, 1), 3 * each);
        }
        SandHours wet = Check.told("man p;glass a p 90 0 8 1;glass b p 90 0 8 1;damp 49;");
        wet.go(1);
        Check.due("the first number is 0, the second 68", wet.wets(), 1);
        Check.due("who is WET stays so", wet.ahead(2, 1, 0), 4 + 8);
        Check.due("who is dry stays so", wet.ahead(2, 1, 1), 8 + 16);
        SandHours y = Check.told("man p;glass a p 90 0 8 1;damp 30;");
        SandHours z = Check.told("man p;glass a p 90 0 8 1;damp 30;");
        for (int k = 0; k < 9; k++) {
            y.ahead(200, 1, 0);
            y.chance(5, 9, 0);
            y.empty(0);
        }
        y.go(7);
        z.go(7);
        Check.due("what is asked uses no number", y.glass(0, 2), z.glass(0, 2));
    }

    private static void wealth() {
        Check.sentence("WEALTH of a PERSON: GRAINS ABOVE and BELOW in all its GLASSES.");
        SandHours x = Check.told("man p;man q;man r;glass a q 1 2 1 1;glass b p 10 20 1 1;glass c q 30 40 1 1;");
        Check.due("of one", x.man(0, 0), 30);
        Check.due("of two", x.man(1, 0), 73);
        Check.due("of none", x.man(2, 0), 0);
        SandHours full = Check.brimful("");
        Check.due("of eight", full.man(0, 0), 16 * 99);
    }

    private static void ofAGlass() {
        SandHours x = Check.told("man p;man q;glass a q 10 50 3 4;glass b p 0 0 1 1;damp 100;pay a b 0 7;");
        x.go(4);
        Check.sentence("Of a GLASS now, what 0 whose, 1 ABOVE, 2 BELOW, 3 NECK, 4 COARSE, 5 whether WET, 6 how often EMPTIED, 7 GRAINS PAID");
        int[] want = {1, 6, 47, 3, 4, 1, 0, 7};
        for (int what = 0; what <= 7; what++) {
            Check.due("glass(0, " + what + ")", x.glass(0, what), want[what]);
        }
        Check.sentence("IndexOutOfBoundsException: no such GLASS.");
        Check.due("the last one is", Check.thrown(x, 1, 0), 0);
        Check.due("one behind it", Check.thrown(x, 2, 0), 1);
        for (int glass : FAR) {
            Check.due("glass " + glass, Check.thrown(x, glass, 0), 1);
            Check.due("glass " + glass + " what 8", Check.thrown(x, glass, 8), 1);
        }
        Check.due("of a new one", Check.thrown(new SandHours(), 0, 0), 1);
        Check.due("eight", Check.thrown(Check.brimful(""), 7, 7), 0);
        Check.due("nine", Check.thrown(Check.brimful(""), 8, 7), 1);
        Check.sentence("NoSuchElementException: no such what.");
        for (int what : FAR) {
            Check.due("what " + what, Check.thrown(x, 1, what), 2);
        }
        Check.due("what 7 is", Check.thrown(x, 1, 7), 0);
    }

    private static void ofAPerson() {
        SandHours x = Check.told("man p;man q;glass a q 10 50 3 4;glass b p 0 0 1 1;glass c q 1 1 1 1;damp 69;");
        x.go(1);
        Check.sentence("Of a PERSON now, what 0 WEALTH, 1 GLASSES (bits), 2 of these those that are WET (bits).");
        Check.due("numbers 0, 68, 88", x.wets(), 3);
        Check.due("man(1, 0)", x.man(1, 0), 62);
        Check.due("man(1, 1)", x.man(1, 1), 5);
        Check.due("man(1, 2)", x.man(1, 2), 1);
        Check.due("man(0, 2)", x.man(0, 2), 2);
        Check.due("without GLASSES", Check.told("man p;").man(0, 1), 0);
        Check.due("all eight", Check.brimful("").man(0, 1), 255);
        Check.sentence("`int man(int man, int what)`: NONE: no such ones.");
        for (int far : FAR) {
            Check.due("man " + far, x.man(far, 0), -1);
            Check.due("what " + far, x.man(0, far), -1);
        }
        Check.due("man 2", x.man(2, 0), -1);
        Check.due("what 3", x.man(0, 3), -1);
        Check.due("of a new one", new SandHours().man(0, 0), -1);
        SandHours five = Check.told("man a;man b;man c;man d;man e;");
        Check.due("the fifth", five.man(4, 0), 0);
        Check.due("a sixth", five.man(5, 0), -1);
    }

    private static void ofAPayment() {
        SandHours x = Check.told("man p;glass a p 0 9 1 1;glass b p 0 9 1 1;law flow 0;pay a b 3 9;pay b a 3 10;pay a b 4 1;");
        Check.sentence("Of a PAYMENT, what 0 from, 1 to, 2 the MINUTE, 3 GRAINS, 4: 0 not yet, 1 all PAID, 2 SHORT.");
        int[] want = {1, 0, 3, 10, 0};
        for (int what = 0; what <= 4; what++) {
            Check.due("payment(1, " + what + ")", x.payment(1, what), want[what]);
        }
        x.go(3);
        Check.due("not yet", x.payment(0, 4), 0);
        x.go(1);
        Check.due("all PAID", x.payment(0, 4), 1);
        Check.due("SHORT", x.payment(1, 4), 2);
        Check.due("not yet", x.payment(2, 4), 0);
        Check.sentence("`int payment(int payment, int what)`: NONE: no such ones.");
        Check.due("payment 3", x.payment(3, 0), -1);
        Check.due("what 5", x.payment(0, 5), -1);
        for (int far : FAR) {
            Check.due("payment " + far, x.payment(far, 0), -1);
            Check.due("what " + far, x.payment(0, far), -1);
        }
        Check.due("of a new one", new SandHours().payment(0, 0), -1);
        SandHours ten = Check.told("man p;glass a p 0 9 1 1;glass b p 0 9 1 1;" + "pay a b 3 9;".repeat(10));
        Check.due("the tenth", ten.payment(9, 3), 9);
        Check.due("an eleventh", ten.payment(10, 3), -1);
    }

    private static void ofALaw() {
        SandHours x = Check.told("man p;glass a p 10 50 3 4;glass b p 20 0 1 1;law flow above * 10;law tax paid - 500;");
        x.pour(0, 1, 5);
        Check.sentence("A law's E now of a GLASS (what 0 flow, 1 tax, 2 wind; paid as it is).");
        Check.due("of a, beyond 99", x.law(0, 0), 100);
        Check.due("of b", x.law(0, 1), 250);
        Check.due("paid as it is, below 0", x.law(1, 0), -495);
        Check.due("of b", x.law(1, 1), -500);
        Check.sentence("Long.MIN_VALUE: an ERROR, no such law, no such ones.");
        Check.due("no such law", x.law(2, 0), Long.MIN_VALUE);
        Check.due("an ERROR", Check.told("man p;glass a p 10 50 3 4;law wind 1 / paid;").law(2, 0), Long.MIN_VALUE);
        Check.due("what 3", x.law(3, 0), Long.MIN_VALUE);
        Check.due("glass 2", x.law(0, 2), Long.MIN_VALUE);
        for (int far : FAR) {
            Check.due("glass " + far, x.law(0, far), Long.MIN_VALUE);
            Check.due("what " + far, x.law(far, 0), Long.MIN_VALUE);
        }
        Check.due("a law without GLASSES", Check.told("law flow 1;").law(0, 0), Long.MIN_VALUE);
    }

    private static void flipping() {
        Check.sentence("A GLASS is turned now: ABOVE then; NONE: no such GLASS.");
        SandHours x = Check.told("man p;glass a p 4 9 2 1;glass b p 7 0 2 1;");
        Check.due("ABOVE then", x.flip(0), 9);
        Check.due("BELOW then", x.glass(0, 2), 4);
        Check.due("none ABOVE then", x.flip(1), 0);
        Check.due("and back", x.flip(1), 7);
        Check.due("flip(2)", x.flip(2), -1);
        for (int far : FAR) {
            Check.due("flip(" + far + ")", x.flip(far), -1);
        }
        Check.due("of a new one", new SandHours().flip(0), -1);
        SandHours y = Check.brimful("");
        Check.due("the eighth", y.flip(7), 99);
    }

    private static void pouring() {
        Check.sentence("GRAINS 1 .. 999 are poured from BELOW of a GLASS to ABOVE of another one, without tax (they count as PAID)");
        SandHours x = Check.told("man p;glass a p 4 9 2 1;glass b p 7 0 2 1;law tax 99;");
        Check.due("1", x.pour(0, 1, 1), 8);
        Check.due("ABOVE of the other one", x.glass(1, 1), 8);
        Check.due("no tax", x.count(8), 0);
        Check.due("PAID", x.glass(0, 7), 1);
        Check.due("0 are no such ones", x.pour(0, 1, 0), -1);
        Check.due("below 0", x.pour(0, 1, -1), -1);
        Check.due("1000", x.pour(0, 1, 1000), -1);
        Check.due("far", x.pour(0, 1, Integer.MAX_VALUE), -1);
        Check.due("far", x.pour(0, 1, Integer.MIN_VALUE), -1);
        SandHours full = Check.brimful("");
        full.flip(1);
        Check.due("999 at once", full.pour(1, 2, 999), 0);
        Check.due("all came", full.glass(2, 1), 999);
        Check.due("all are PAID", full.glass(1, 7), 999);
        SandHours three = Check.told("man p;glass a p 4 9 2 1;glass b p 7 5 2 1;glass c p 1 3 2 1;");
        for (int one = 0; one < 3; one++) {
            for (int other = 0; other < 3; other++) {
                if (one != other) {
                    int below = three.glass(one, 2);
                    int above = three.glass(other, 1);
                    int paid = three.glass(one, 7);
                    Check.due("how many are left BELOW", three.pour(one, other, 1), below - 1);
                    Check.due("BELOW", three.glass(one, 2), below - 1);
                    Check.due("ABOVE", three.glass(other, 1), above + 1);
                    Check.due("PAID", three.glass(one, 7), paid + 1);
                }
            }
        }
        Check.sentence("-2: there are not so many");
        Check.due("one more than there are", x.pour(0, 1, 9), -2);
        Check.due("just all", x.pour(0, 1, 8), 0);
        Check.due("of none", x.pour(0, 1, 1), -2);
        Check.due("999", x.pour(1, 0, 999), -2);
        Check.due("it stays", x.glass(1, 1), 16);
        Check.sentence("NONE: no such ones, alike, there would be more than 999 ABOVE.");
        Check.due("alike", x.pour(0, 0, 1), -1);
        Check.due("alike, and not so many", x.pour(0, 0, 500), -1);
        Check.due("glass 2", x.pour(2, 0, 1), -1);
        Check.due("glass 2", x.pour(0, 2, 1), -1);
        for (int far : FAR) {
            Check.due("glass " + far, x.pour(far, 1, 1), -1);
            Check.due("glass " + far, x.pour(0, far, 1), -1);
        }
        SandHours y = Check.brimful("");
        Check.due("999 are ABOVE", y.pour(0, 1, 1), -1);
        y.flip(1);
        y.pour(1, 2, 10);
        y.flip(1);
        Check.due("989 are: 11 would be too many", y.pour(0, 1, 11), -1);
        Check.due("they stay", y.glass(0, 2), 99);
        Check.due("none came", y.glass(1, 1), 989);
        Check.due("10 are just 999", y.pour(0, 1, 10), 89);
        Check.due("999", y.glass(1, 1), 999);
    }

    private static void drying() {
        Check.sentence("A WET GLASS is dried: true; false: no such one, it is dry.");
        SandHours x = Check.told("man p;glass a p 4 9 2 1;glass b p 7 0 2 1;damp 69;");
        Check.due("it is dry", x.dry(0), false);
        Check.due("nothing to undo", x.count(13), 0);
        x.go(1);
        Check.due("both are WET", x.wets(), 3);
        Check.due("dried", x.dry(1), true);
        Check.due("the other one is WET still", x.wets(), 1);
        Check.due("it is dry", x.dry(1), false);
        Check.due("no such one", x.dry(2), false);
        for (int far : FAR) {
            Check.due("dry(" + far + ")", x.dry(far), false);
        }
        Check.due("one to undo", x.count(13), 1);
        Check.due("of a new one", new SandHours().dry(0), false);
    }

    private static void going() {
        Check.sentence("So many MINUTES (0 .. 200) go by: which one it is");
        SandHours x = Check.told("man p;glass a p 90 0 1 1;");
        Check.due("0", x.go(0), 0);
        Check.due("nothing ran", x.glass(0, 2), 0);
        Check.due("1", x.go(1), 1);
        Check.due("one ran", x.glass(0, 2), 1);
        Check.due("200", x.go(200), 201);
        Check.sentence("NONE, and none does: no such number");
        SandHours y = Check.told("man p;glass a p 90 0 1 1;");
        for (int n : new int[] {-1, 201, 202, 1000, Integer.MIN_VALUE, Integer.MAX_VALUE}) {
            Check.due("go(" + n + ")", y.go(n), -1);
        }
        Check.due("it is MINUTE 0", y.count(5), 0);
        Check.due("nothing ran", y.glass(0, 1), 90);
        Check.sentence("NONE, and none does: behind 9000");
        SandHours z = Check.told("man p;glass a p 90 0 1 1;law flow minute >= 8990;");
        for (int k = 1; k <= 44; k++) {
            z.go(200);
        }
        Check.due("8990", z.go(190), 8990);
        Check.due("11 would be behind", z.go(11), -1);
        Check.due("200 would be behind", z.go(200), -1);
        Check.due("none went by", z.count(5), 8990);
        Check.due("nothing ran", z.glass(0, 2), 0);
        Check.due("10 are just 9000", z.go(10), 9000);
        Check.due("ten ran", z.glass(0, 2), 10);
        Check.due("1 would be behind", z.go(1), -1);
        Check.due("0 isn't", z.go(0), 9000);
        Check.due("it may be asked what comes", z.ahead(200, 1, 0), 90);
        Check.due("and when it is empty", z.empty(0), 80);
    }

    private static void undoing() {
        Check.sentence("Turning, pouring, drying by call can be undone, the latest first");
        SandHours x = Check.told("man p;glass a p 4 9 2 1;glass b p 7 5 2 1;damp 100;");
        x.go(1);
        String[] before = new String[6];
        int[] left = {3, 2, 1, 0};
        before[0] = Check.picture(x);
        x.flip(0);
        before[1] = Check.picture(x);
        x.pour(0, 1, 2);
        before[2] = Check.picture(x);
        x.dry(1);
        before[3] = Check.picture(x);
        x.flip(1);
        Check.due("four", x.count(13), 4);
        for (int k = 0; k < 4; k++) {
            Check.due("how many are left", x.undo(), left[k]);
            Check.same("as it was", Check.picture(x), before[3 - k]);
        }
        Check.sentence("`int undo()`: NONE: none.");
        Check.due("none is left", x.undo(), -1);
        Check.due("of a new one", new SandHours().undo(), -1);
        Check.due("what is undone isn't there to undo", x.count(13), 0);
        x.flip(0);
        Check.due("another one", x.undo(), 0);
    }

    private static void twentyAtMost() {
        Check.sentence("(20 at most)");
        for (int done : new int[] {19, 20, 21, 45}) {
            SandHours x = Check.told("man p;glass a p 0 99 2 1;glass b p 0 0 2 1;");
            for (int k = 0; k < done; k++) {
                x.pour(0, 1, 1);
            }
            int kept = Math.min(20, done);
            Check.due("what can be undone", x.count(13), kept);
            for (int k = kept - 1; k >= 0; k--) {
                Check.due("undo", x.undo(), k);
            }
            Check.due("no more", x.undo(), -1);
            Check.due("the first ones stay", x.glass(1, 1), done - kept);
        }
    }

    private static void noMinuteSince() {
        Check.sentence("if no MINUTE went by since.");
        SandHours x = Check.told("man p;glass a p 4 9 2 1;");
        x.flip(0);
        Check.due("none goes by", x.go(0), 0);
        Check.due("none goes by", x.go(201), -1);
        x.ahead(9, 0, 0);
        x.keep();
        Check.due("still one", x.count(13), 1);
        x.go(1);
        Check.due("one went by", x.count(13), 0);
        Check.due("none", x.undo(), -1);
        x.flip(0);
        Check.due("done behind it", x.undo(), 0);
    }

    private static void images() {
        Check.sentence("`int keep()`: An IMAGE is kept (in place of one ahead): which MINUTE it is.");
        SandHours x = Check.told("man p;man q;glass a p 40 9 2 1;glass b q 1 3 2 1;damp 30;pay a b 2 3;pay b a 3 50;law tax 1;turn b 4;");
        Check.due("keep", x.keep(), 0);
        x.go(2);
        Check.due("in place of it", x.keep(), 2);
        String kept = Check.picture(x);
        x.go(30);
        Check.due("back", x.back(), 2);
        Check.same("as it was", Check.picture(x), kept);
        Check.sentence("`int back()`: All (but what was SEEN) is as in the IMAGE (nothing to undo then): which MINUTE it is");
        x.flip(0);
        x.flip(1);
        Check.due("back", x.back(), 2);
        Check.due("nothing to undo", x.undo(), -1);
        Check.same("as it was", Check.picture(x), kept);
        x.flip(0);
        x.keep();
        Check.due("keeping leaves what can be undone", x.undo(), 0);
        Check.due("back", x.back(), 2);
        Check.due("the IMAGE has it turned: it was WET, 1 and 1 ran", x.glass(0, 1), 11);
        Check.due("nothing to undo", x.undo(), -1);
        x.go(20);
        Check.due("back once more", x.back(), 2);
        itsNumbers();
        x.see(1, 0, 5, true);
        Check.due("back", x.back(), 2);
        Check.due("what was SEEN isn't in it", x.count(11), 1);
        Check.sentence("`int back()`: NONE: there is none.");
        Check.due("of a new one", new SandHours().back(), -1);
        SandHours y = Check.told("man p;glass a p 4 9 2 1;");
        y.flip(0);
        Check.due("none yet", y.back(), -1);
        Check.due("nothing changes", y.count(13), 1);
        Check.due("nothing changes", y.glass(0, 1), 9);
        y.keep();
        Check.due("a text", Check.tell(y, "man p;"), 1);
        Check.due("none of another TEXT", y.back(), -1);
        y.keep();
        Check.due("a text with a FAULT", Check.tell(y, "man"), -1);
        Check.due("still there", y.back(), 0);
    }

    private static void itsNumbers() {
        StringBuilder t = new StringBuilder("man p;");
        for (char name = 'a'; name <= 'h'; name++) {
            t.append("glass ").append(name).append(" p 1 1 1 1;");
        }
        SandHours x = Check.told(t + "damp 7;seed 3;");
        x.go(2);
        x.keep();
        int[] wet = new int[9];
        for (int minute = 0; minute < 9; minute++) {
            x.go(1);
            wet[minute] = x.wets();
        }
        for (int times = 0; times < 2; times++) {
            x.back();
            for (int minute = 0; minute < 9; minute++) {
                x.go(1);
                Check.due("its numbers, too: minute " + minute, x.wets(), wet[minute]);
            }
        }
        Check.due("not all are WET, some are", wet[8] != 255 && wet[8] != wet[0], true);
    }

    private static void counts() {
        Check.sentence("0 PEOPLE, 1 GLASSES, 2 PAYMENTS told, 3 SIEVES, 4 KNOTS, 5 the MINUTE, 6 GRAINS in all GLASSES, 7 PAID by all, "
                + "8 TAXED so far, 9 SHORT, 10 EMPTIED in all, 11 SEEN, 12 by how many it is KNOWN, 13 what can be undone.");
        SandHours x = Check.told("man p;man q;glass a p 4 9 2 1;glass b p 1 5 9 1;glass c q 0 20 1 1;pay c a 0 8;pay c b 0 20;pay a b 50 1;"
                + "pay a b 60 1;sieve 1;sieve 2;sieve 3;sieve 4;sieve 5;law tax 2 + 1 - 0;law wind neck;");
        x.go(1);
        x.see(1, 0, 1, true);
        x.see(1, 0, 1, true);
        x.strike(0);
        x.known(2);
        x.flip(0);
        x.flip(0);
        x.flip(1);
        // c pays 8 and 12; 5 and 9 come to a and b; a runs 2 of 9, b 9 of 10
        int[] want = {2, 3, 4, 5, 6, 1, 39 - 6, 20, 6, 1, 0, 3, 2, 3};
        for (int what = 0; what <= 13; what++) {
            Check.due("count(" + what + ")", x.count(what), want[what]);
        }
        x.go(1);
        Check.due("a is turned back: 2 of 7 run; b has 14 above, 9 run", x.count(10), 0);
        x.go(1);
        Check.due("b is EMPTIED", x.count(10), 1);
        Check.sentence("`int count(int what)`: NONE for another what.");
        for (int what : new int[] {-1, 14, 15, Integer.MIN_VALUE, Integer.MAX_VALUE}) {
            Check.due("count(" + what + ")", x.count(what), -1);
        }
    }

    private static void refusedCalls() {
        Check.sentence("what refuses changes nothing");
        SandHours x = Check.told("man p;man q;glass a p 40 9 2 1;glass b q 1 3 2 1;damp 100;pay a b 2 3;law tax 1;sieve 2;");
        x.go(1);
        x.keep();
        x.flip(0);
        x.see(1, 0, 1, true);
        String before = Check.picture(x);
        x.flip(2);
        x.pour(0, 0, 1);
        x.pour(0, 1, 999);
        x.pour(0, 1, 0);
        x.dry(2);
        x.go(-1);
        x.go(201);
        x.see(0, 0, 0, true);
        x.see(1, 2, 0, true);
        x.strike(1);
        x.strike(-1);
        x.known(2);
        x.known(-2);
        x.text(1);
        x.text(-1);
        Check.same("as before", Check.picture(x), before);
        Check.due("the IMAGE is still there", x.back(), 1);
        Check.sentence("what is asked changes nothing");
        x.flip(0);
        String asked = Check.picture(x);
        x.ahead(200, 0, 0);
        x.empty(0);
        x.open(0, 9);
        x.vigil(0, 30);
        x.carry(0, 1);
        x.rests(0);
        x.rest(1, 0);
        x.let(0, 4, 0);
        x.nextShort(0);
        x.richestIn(200);
        x.necks(0);
        x.chance(1, 99, 0);
        x.tried(2, 0, 200);
        x.keep();
        Check.same("as before", Check.picture(x), asked);
        Check.due("undo", x.undo(), 0);
    }
}
