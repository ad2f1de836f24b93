import java.math.BigInteger;

/** The edges that the document names of ==== 3 and promises 14 to 39: each sentence has its own test. */
public final class AskEdgesTest {
    private static final int[] FAR = {Integer.MIN_VALUE, -2, -1, 8, 9, 1000, Integer.MAX_VALUE};
    private static final String TWO = "man p;man q;glass a p 10 5 2 3;glass b q 20 30 3 5;";

    public static void main(String[] args) {
        ahead();
        aheadRefuses();
        empty();
        open();
        vigil();
        vigilAlone();
        apart();
        carry();
        comes();
        even();
        staysDry();
        richest();
        share();
        let();
        nextShort();
        heaviest();
        wets();
        sift();
        rank();
        toCome();
        see();
        strike();
        known();
        necks();
        chance();
        tried();
        Check.end();
    }

    private static String glasses(int n, String rest) {
        StringBuilder t = new StringBuilder("man p;");
        for (int g = 0; g < n; g++) {
            t.append("glass ").append((char) ('a' + g)).append(" p ").append(rest).append(";");
        }
        return t.toString();
    }

    private static void ahead() {
        Check.sentence("AHEAD for n MINUTES as it goes: ABOVE, BELOW of a GLASS then");
        SandHours x = Check.told(TWO);
        Check.due("ABOVE in 0", x.ahead(0, 0, 0), 10);
        Check.due("BELOW in 0", x.ahead(0, 1, 1), 30);
        Check.due("ABOVE in 4", x.ahead(4, 0, 0), 2);
        Check.due("ABOVE in 5", x.ahead(5, 0, 0), 0);
        Check.due("ABOVE in 200", x.ahead(200, 0, 0), 0);
        Check.due("BELOW in 200", x.ahead(200, 1, 0), 15);
        Check.sentence("how often more all were EMPTIED");
        Check.due("in 0", x.ahead(0, 2, 0), 0);
        Check.due("in 4", x.ahead(4, 2, 0), 0);
        Check.due("in 5", x.ahead(5, 2, 0), 1);
        Check.due("in 6", x.ahead(6, 2, 0), 1);
        Check.due("in 7", x.ahead(7, 2, 0), 2);
        SandHours later = Check.told(TWO + "turn a 20;");
        later.go(10);
        Check.due("two ahead of now", later.count(10), 2);
        Check.due("more than now", later.ahead(10, 2, 0), 0);
        Check.due("one more", later.ahead(100, 2, 0), 1);
        Check.sentence("WEALTH of a PERSON then");
        SandHours paying = Check.told(TWO + "pay b a 3 7;law tax 2;");
        Check.due("in 3", paying.ahead(3, 3, 0), 15);
        Check.due("in 4", paying.ahead(4, 3, 0), 20);
        Check.due("in 4", paying.ahead(4, 3, 1), 43);
        Check.sentence("how many PAYMENTS more are SHORT");
        SandHours poor = Check.told(TWO + "pay a b 0 99;pay a b 1 99;pay b a 1 1;pay a b 9 99;");
        Check.due("in 0", poor.ahead(0, 4, 0), 0);
        Check.due("in 1", poor.ahead(1, 4, 0), 1);
        Check.due("in 2", poor.ahead(2, 4, 0), 2);
        Check.due("in 200", poor.ahead(200, 4, 0), 3);
        poor.go(1);
        Check.due("one is SHORT", poor.count(9), 1);
        Check.due("more than now", poor.ahead(1, 4, 0), 1);
    }

    private static void aheadRefuses() {
        SandHours x = Check.told(TWO);
        Check.sentence("AHEAD (n 0 .. 200)");
        for (int n : new int[] {Integer.MIN_VALUE, -1, 201, 1000, Integer.MAX_VALUE}) {
            for (int what = 0; what <= 4; what++) {
                Check.due("n " + n, x.ahead(n, what, 0), -1);
            }
        }
        Check.sentence("(of 2, 4 i isn't looked at)");
        for (int far : FAR) {
            Check.due("EMPTIED", x.ahead(5, 2, far), 1);
            Check.due("SHORT", x.ahead(5, 4, far), 0);
        }
        Check.due("EMPTIED without GLASSES", new SandHours().ahead(5, 2, 0), 0);
        Check.sentence("`int ahead(int n, int what, int i)`: NONE: no such ones.");
        for (int far : FAR) {
            Check.due("glass " + far, x.ahead(5, 0, far), -1);
            Check.due("glass " + far, x.ahead(5, 1, far), -1);
            Check.due("man " + far, x.ahead(5, 3, far), -1);
            Check.due("what " + far, x.ahead(5, far, 0), -1);
        }
        Check.due("glass 2", x.ahead(5, 0, 2), -1);
        Check.due("man 2", x.ahead(5, 3, 2), -1);
        Check.due("what 5", x.ahead(5, 5, 0), -1);
        SandHours more = Check.told("man p;man q;man r;glass a p 1 1 1 1;");
        Check.due("a man without a GLASS of its number", more.ahead(0, 3, 2), 0);
        Check.due("no GLASS of a man's number", more.ahead(0, 0, 2), -1);
    }

    private static void empty() {
        Check.sentence("EMPTY of a GLASS: in how many MINUTES as it goes, 199 at most, none is ABOVE (0: now).");
        Check.due("now", Check.told("man p;glass a p 0 9 1 1;").empty(0), 0);
        Check.due("in 1", Check.told("man p;glass a p 9 9 9 1;").empty(0), 1);
        Check.due("in 2", Check.told("man p;glass a p 10 9 9 1;").empty(0), 2);
        Check.due("in 99", Check.told("man p;glass a p 99 9 1 1;").empty(0), 99);
        Check.due("by damp", Check.told("man p;glass a p 8 9 8 1;damp 50;").empty(0), 2);
        Check.due("in 198", Check.told("man p;glass a p 99 0 1 1;law flow minute > 98;").empty(0), 198);
        Check.due("in 199", Check.told("man p;glass a p 99 0 1 1;law flow minute > 99;").empty(0), 199);
        Check.due("from now on", goneOn("man p;glass a p 99 0 1 1;law flow minute > 99;", 50).empty(0), 149);
        Check.sentence("-2: not by then");
        Check.due("in 200", Check.told("man p;glass a p 99 0 1 1;law flow minute > 100;").empty(0), -2);
        Check.due("never", Check.told("man p;glass a p 1 0 1 1;damp 100;").empty(0), -2);
        Check.due("in 200, but a MINUTE went by", goneOn("man p;glass a p 99 0 1 1;law flow minute > 100;", 1).empty(0), 199);
        Check.sentence("`int empty(int glass)`: NONE: no such GLASS.");
        SandHours x = Check.told(TWO);
        Check.due("glass 2", x.empty(2), -1);
        for (int far : FAR) {
            Check.due("glass " + far, x.empty(far), -1);
        }
    }

    private static SandHours goneOn(String text, int minutes) {
        SandHours x = Check.told(text);
        x.go(minutes);
        return x;
    }

    private static void open() {
        SandHours x = Check.told("man p;man q;man r;glass a p 9 5 1 1;glass b p 9 3 1 1;glass c q 9 8 1 1;glass d p 9 8 1 1;"
                + "glass e p 9 5 1 1;glass f p 9 0 1 1;");
        Check.sentence("OPEN of a PERSON for a sum: the fewest of its GLASSES (bits, of several the least) whose BELOW in sum is just that.");
        Check.due("none for 0", x.open(0, 0), 0);
        Check.due("one", x.open(0, 3), 2);
        Check.due("the least of two", x.open(0, 5), 1);
        Check.due("one rather than two", x.open(0, 8), 8);
        Check.due("two, the least of several", x.open(0, 13), 9);
        Check.due("3 and 5, 3 and 8", x.open(0, 11), 10);
        Check.due("5 and 5", x.open(0, 10), 17);
        Check.due("all but none's", x.open(0, 21), 27);
        Check.due("its own", x.open(1, 8), 4);
        Check.due("all eight", Check.told(glasses(8, "0 9 1 1")).open(0, 72), 255);
        Check.due("seven of eight", Check.told(glasses(8, "0 9 1 1")).open(0, 63), 127);
        Check.sentence("(a sum 0 .. 9999; bits)");
        Check.due("9999", x.open(0, 9999), -2);
        Check.due("10000", x.open(0, 10000), -1);
        Check.due("-1", x.open(0, -1), -1);
        Check.due("far", x.open(0, Integer.MAX_VALUE), -1);
        Check.due("far", x.open(0, Integer.MIN_VALUE), -1);
        Check.sentence("OPEN -2: by none");
        Check.due("one more than all", x.open(0, 22), -2);
        Check.due("not just that", x.open(0, 1), -2);
        Check.due("another one's", x.open(1, 5), -2);
        Check.due("without GLASSES", x.open(2, 1), -2);
        Check.due("without GLASSES, but 0", x.open(2, 0), 0);
        Check.due("those ABOVE don't count", x.open(1, 17), -2);
        Check.sentence("`int open(int man, int sum)`: NONE: no such ones.");
        Check.due("man 3", x.open(3, 0), -1);
        for (int far : FAR) {
            Check.due("man " + far, x.open(far, 0), -1);
        }
    }

    private static int vigil(String glass, int n) {
        return Check.told("man p;glass a p " + glass + ";").vigil(0, n);
    }

    private static void vigil() {
        Check.sentence("VIGIL of a GLASS for n MINUTES: the fewest TURNS (at the begin of a MINUTE, one in each at most) "
                + "so that behind each of these MINUTES GRAINS are ABOVE");
        Check.due("one is left", vigil("2 0 1 1", 1), 0);
        Check.due("none would be left, and none by a TURN", vigil("1 0 1 1", 1), -2);
        Check.due("none would be left, one by a TURN", vigil("1 2 1 1", 1), 1);
        Check.due("all in one MINUTE", vigil("9 9 9 1", 1), -2);
        Check.due("all but one", vigil("10 9 9 1", 1), 0);
        Check.due("then none", vigil("10 9 9 1", 2), 1);
        Check.due("30", vigil("31 0 1 1", 30), 0);
        Check.due("30 are all: the last one is turned to 29", vigil("30 0 1 1", 30), 1);
        Check.due("once in each: 3 and 0, 2 and 1, turned 1 and 2 leaves none", vigil("3 0 1 1", 3), 1);
        Check.due("2 and 1: 1 2, turned 1 2", vigil("2 1 1 1", 2), 1);
        Check.due("2 and 0: 1 1, turned 0 2", vigil("2 0 1 1", 2), -2);
        Check.due("2 and 2: 1 3, turned 2 2, 1 3, turned ..", vigil("2 2 1 1", 4), 2);
        Check.due("nothing runs", Check.told("man p;glass a p 1 0 9 1;law flow 0;").vigil(0, 30), 0);
        Check.due("nothing is there", Check.told("man p;glass a p 0 0 9 1;law flow 0;").vigil(0, 1), -2);
        Check.due("nothing is above", Check.told("man p;glass a p 0 1 9 1;law flow 0;").vigil(0, 30), 1);
        Check.sentence("VIGIL (n 1 .. 30)");
        SandHours x = Check.told(TWO);
        Check.due("1", x.vigil(0, 1), 0);
        Check.due("30", x.vigil(1, 30) >= 0, true);
        Check.due("0", x.vigil(0, 0), -1);
        Check.due("31", x.vigil(0, 31), -1);
        for (int far : new int[] {Integer.MIN_VALUE, -1, 1000, Integer.MAX_VALUE}) {
            Check.due("n " + far, x.vigil(0, far), -1);
        }
        Check.sentence("`int vigil(int glass, int n)`: NONE: no such ones.");
        Check.due("glass 2", x.vigil(2, 1), -1);
        for (int far : FAR) {
            Check.due("glass " + far, x.vigil(far, 1), -1);
        }
    }

    private static void vigilAlone() {
        Check.sentence("by (4) alone from now on, WET, paid as they are");
        Check.due("no TURNS told", Check.told("man p;glass a p 9 0 1 1;turn a 0;").vigil(0, 1), 0);
        Check.due("no PAYMENTS to it", Check.told("man p;glass a p 1 0 1 1;glass b p 0 9 1 1;pay b a 0 9;").vigil(0, 1), -2);
        Check.due("no PAYMENTS from it", Check.told("man p;glass a p 1 9 1 1;glass b p 0 9 1 1;pay a b 0 9;").vigil(0, 1), 1);
        Check.due("no damp", Check.told("man p;glass a p 1 0 1 1;damp 100;").vigil(0, 1), -2);
        Check.due("no wind", Check.told("man p;glass a p 10 0 1 1;law wind 99;").vigil(0, 11), 1);
        SandHours wet = Check.told("man p;glass a p 2 0 1 1;damp 100;");
        wet.go(1);
        Check.due("WET as it is", wet.vigil(0, 30), 0);
        SandHours paying = Check.told("man p;glass a p 9 5 1 1;glass b p 0 0 1 1;law flow paid;");
        paying.pour(0, 1, 5);
        Check.due("paid as it is: 5 run, then 4 are turned to 5", paying.vigil(0, 1), 0);
        Check.due("and no more", paying.vigil(0, 2), -2);
        Check.due("by its MINUTE", goneOn("man p;glass a p 9 0 1 1;law flow minute > 3;", 3).vigil(0, 9), 0);
        Check.due("by its MINUTE", goneOn("man p;glass a p 9 0 1 1;law flow minute > 3;", 4).vigil(0, 9), 1);
        // 40 and 0: half of those above run, 20 20, 10 30, 5 35, 3 37, 2 38, 1 39, then all of 1
        Check.due("above as it goes", Check.told("man p;glass a p 40 0 1 1;law flow (above + (above = 1)) / 2;").vigil(0, 6), 0);
        Check.due("above as it goes", Check.told("man p;glass a p 40 0 1 1;law flow (above + (above = 1)) / 2;").vigil(0, 7), 1);
        // 12 and 0: as many run as are below and 1: 11 1, 9 3, 5 7, none; turned ahead of the fourth 7 5, 1 11
        Check.due("below as it goes", Check.told("man p;glass a p 12 0 1 1;law flow below + 1;").vigil(0, 3), 0);
        Check.due("below as it goes", Check.told("man p;glass a p 12 0 1 1;law flow below + 1;").vigil(0, 4), 1);
        Check.sentence("without the bound of 999");
        SandHours x = Check.brimful("law flow 99;");
        x.flip(1);
        x.pour(0, 1, 99);
        x.flip(0);
        x.pour(0, 1, 99);
        x.pour(5, 1, 90);
        x.pour(6, 1, 99);
        x.pour(7, 1, 99);
        Check.due("999 above", x.flip(1), 999);
        Check.due("585 below", x.glass(1, 2), 585);
        Check.due("10 leave 9", x.vigil(1, 10), 0);
        Check.due("1575 are turned, 15 leave 90", x.vigil(1, 25), 1);
        Check.due("then once more", x.vigil(1, 26), 2);
    }

    private static int apart(String sands, String sieves) {
        StringBuilder t = new StringBuilder("man p;");
        for (int k = 0; k < sands.length(); k++) {
            t.append("glass ").append((char) ('a' + k)).append(" p 1 1 1 ").append(sands.charAt(k)).append(";");
        }
        for (int k = 0; k < sieves.length(); k++) {
            t.append("sieve ").append(sieves.charAt(k)).append(";");
        }
        return Check.told(t.toString()).apart();
    }

    private static void apart() {
        Check.sentence("APART: the fewest SIEVES (bits, of several the least) by which no two GLASSES of unlike COARSE are alike");
        Check.due("no GLASSES", apart("", "123"), 0);
        Check.due("one GLASS", apart("5", "456"), 0);
        Check.due("like COARSE", apart("555", "456"), 0);
        Check.due("two", apart("56", "456"), 2);
        Check.due("the least of two", apart("57", "465"), 2);
        Check.due("three by two", apart("159", "9148"), 10);
        Check.due("like SIEVES", apart("159", "1155"), 5);
        Check.due("all six", apart("1234567", "123456"), 63);
        Check.due("all six from the last on", apart("3456789", "876543"), 63);
        Check.due("neighbours first", apart("12", "2345" + "61"), 32);
        Check.sentence("(sand goes through a SIEVE, if COARSE is no more than MESH)");
        Check.due("COARSE is MESH", apart("45", "4"), 1);
        Check.due("COARSE is more by 1", apart("34", "4"), -2);
        Check.due("both are more", apart("56", "4"), -2);
        Check.due("1 of 1", apart("19", "1"), 1);
        Check.due("9 of 9", apart("19", "9"), -2);
        Check.sentence("`int apart()`: -2: by none.");
        Check.due("no SIEVES", apart("45", ""), -2);
        Check.due("not these", apart("45", "356789"), -2);
        Check.due("not all of them", apart("345", "4"), -2);
        Check.due("eight sands", apart("12345678", "123456"), -2);
    }

    private static String pays(String all) {
        StringBuilder t = new StringBuilder();
        for (String one : all.split(" ")) {
            t.append("pay ").append(one.charAt(0)).append(' ').append(one.charAt(1)).append(" 7 ").append(one.substring(2)).append(";");
        }
        return t.toString();
    }

    private static void carry() {
        String all = glasses(8, "0 0 1 1");
        Check.sentence("CARRY from a GLASS to another one: the most GRAINS that told PAYMENTS can bring there over other GLASSES, too");
        Check.due("none told", Check.told(all).carry(0, 1), 0);
        Check.due("one", Check.told(all + pays("ab5")).carry(0, 1), 5);
        Check.due("one of one GRAIN", Check.told(all + pays("ab1")).carry(0, 1), 1);
        Check.due("ten of one GRAIN", Check.told(all + pays("ab1 ab1 ab1 ab1 ab1 ab1 ab1 ab1 ab1 ab1")).carry(0, 1), 10);
        Check.due("not back", Check.told(all + pays("ab5")).carry(1, 0), 0);
        Check.due("ten at most", Check.told(all + pays("ab99 ab99 ab99 ab99 ab99 ab99 ab99 ab99 ab99 ab99")).carry(0, 1), 990);
        Check.due("over all others", Check.told(all + pays("ab9 bc8 cd7 de6 ef9 fg8 gh7")).carry(0, 7), 6);
        Check.due("over others against their numbers", Check.told(all + pays("hg9 gf8 fe7 ed6 dc9 cb8 ba7")).carry(7, 0), 6);
        Check.due("two ways", Check.told(all + pays("ab5 bd4 ac3 cd9")).carry(0, 3), 7);
        Check.due("round in a ring", Check.told(all + pays("ab5 bc4 ca3")).carry(2, 1), 3);
        Check.due("what comes back to it doesn't count", Check.told(all + pays("ab5 ba9 bc9")).carry(0, 2), 5);
        Check.due("what goes on from the other one comes back", Check.told(all + pays("ab5 bc5 cb5")).carry(0, 1), 5);
        Check.due("the way across must be given back", Check.told(all + pays("ab1 ac1 bc1 bd1 cd1")).carry(0, 3), 2);
        Check.sentence("whenever they are");
        SandHours late = Check.told(all + "pay a b 99 5;pay b c 0 4;");
        Check.due("the second one is ahead of the first", late.carry(0, 2), 4);
        late.go(200);
        Check.due("they are gone by", late.carry(0, 2), 4);
        Check.sentence("`int carry(int one, int other)`: NONE: no such GLASSES, alike.");
        SandHours x = Check.told(TWO + "pay a b 1 1;");
        Check.due("alike", x.carry(0, 0), -1);
        Check.due("alike", x.carry(1, 1), -1);
        Check.due("glass 2", x.carry(0, 2), -1);
        Check.due("glass 2", x.carry(2, 0), -1);
        for (int far : FAR) {
            Check.due("glass " + far, x.carry(0, far), -1);
            Check.due("glass " + far, x.carry(far, 0), -1);
        }
    }

    private static void comes() {
        String all = glasses(8, "0 0 1 1");
        Check.sentence("COMES of a GLASS: GLASSES (bits) to which sand can come from it by told PAYMENTS, over others, too (it, too).");
        Check.due("it alone", Check.told(all).comes(3), 8);
        Check.due("not back", Check.told(all + pays("ab5")).comes(1), 2);
        Check.due("one", Check.told(all + pays("ab5")).comes(0), 3);
        Check.due("over all others", Check.told(all + pays("ab9 bc8 cd7 de6 ef9 fg8 gh7")).comes(0), 255);
        Check.due("against their numbers", Check.told(all + pays("ba9 cb8 dc7 ed6 fe9 gf8 hg7")).comes(7), 255);
        Check.due("some", Check.told(all + pays("ba9 cb8 dc7 ed6 fe9 gf8 hg7")).comes(3), 15);
        Check.due("a ring", Check.told(all + pays("ab1 bc1 ca1 de1")).comes(1), 7);
        SandHours late = Check.told(all + "pay a b 99 5;pay b c 0 4;");
        late.go(200);
        Check.due("whenever they are", late.comes(0), 7);
        Check.sentence("`int comes(int glass)`: NONE: no such GLASS.");
        SandHours x = Check.told(TWO);
        Check.due("glass 2", x.comes(2), -1);
        for (int far : FAR) {
            Check.due("glass " + far, x.comes(far), -1);
        }
    }

    private static void even() {
        Check.sentence("EVEN of two PEOPLE: that they differ by 1 at most: half of what it has more, cut.");
        int[][] asked = {{50, 0}, {51, 0}, {52, 1}, {53, 1}, {54, 2}, {49, 0}, {48, -1}, {47, -1}, {46, -2}, {99, 24}, {0, -25}};
        for (int[] a : asked) {
            SandHours x = Check.told("man p;man q;glass a p " + a[0] + " 0 1 1;glass b q 0 50 1 1;");
            Check.due("it has " + a[0], x.even(0, 1), a[1]);
            Check.due("the other way", x.even(1, 0), -a[1]);
            int differ = a[0] - a[1] - (50 + a[1]);
            Check.due("they differ by 1 at most", differ >= -1 && differ <= 1, true);
        }
        Check.due("without GLASSES", Check.told("man p;man q;").even(0, 1), 0);
        Check.sentence("Integer.MIN_VALUE: no such PEOPLE, alike.");
        SandHours x = Check.told(TWO);
        Check.due("alike", x.even(0, 0), Integer.MIN_VALUE);
        Check.due("man 2", x.even(0, 2), Integer.MIN_VALUE);
        Check.due("man 2", x.even(2, 0), Integer.MIN_VALUE);
        for (int far : FAR) {
            Check.due("man " + far, x.even(far, 0), Integer.MIN_VALUE);
            Check.due("man " + far, x.even(0, far), Integer.MIN_VALUE);
        }
    }

    private static void staysDry() {
        Check.sentence("DRY (n 0 .. 6) in least terms, what 0: the number above, 1: the one below.");
        for (int damp = 0; damp <= 100; damp++) {
            SandHours x = Check.told("man p;glass a p 1 1 1 1;damp " + damp + ";");
            for (int n = 0; n <= 6; n++) {
                BigInteger above = BigInteger.valueOf(100 - damp).pow(n);
                BigInteger below = BigInteger.valueOf(100).pow(n);
                BigInteger common = above.gcd(below);
                Check.due("above, damp " + damp + " n " + n, x.staysDry(0, n, 0), above.divide(common).longValueExact());
                Check.due("below, damp " + damp + " n " + n, x.staysDry(0, n, 1), below.divide(common).longValueExact());
            }
        }
        Check.sentence("how likely it isn't WET then, as a fraction (0, if it is WET)");
        SandHours wet = goneOn("man p;glass a p 1 1 1 1;glass b p 1 1 1 1;damp 30;", 1);
        for (int n = 0; n <= 6; n++) {
            Check.due("0", wet.staysDry(0, n, 0), 0);
            Check.due("of 1", wet.staysDry(0, n, 1), 1);
        }
        Check.due("the other one is dry", wet.staysDry(1, 1, 0), 7);
        wet.dry(0);
        Check.due("dried", wet.staysDry(0, 1, 0), 7);
        Check.sentence("`long staysDry(int glass, int n, int what)`: NONE: no such ones.");
        SandHours x = Check.told(TWO + "damp 7;");
        for (int what = 0; what <= 1; what++) {
            Check.due("n 7", x.staysDry(0, 7, what), -1);
            Check.due("n -1", x.staysDry(0, -1, what), -1);
            Check.due("glass 2", x.staysDry(2, 1, what), -1);
        }
        Check.due("what 2", x.staysDry(0, 1, 2), -1);
        for (int far : FAR) {
            Check.due("glass " + far, x.staysDry(far, 1, 0), -1);
            Check.due("n " + far, x.staysDry(0, far, 0), -1);
            Check.due("what " + far, x.staysDry(0, 1, far), -1);
        }
    }

    private static void richest() {
        Check.sentence("RICHEST: who has most WEALTH, the first of several.");
        Check.due("the second", Check.told(TWO).richest(), 1);
        Check.due("the first of two", Check.told("man p;man q;man r;glass a r 5 0 1 1;glass b q 0 5 1 1;").richest(), 1);
        Check.due("by one more", Check.told("man p;man q;man r;glass a r 5 1 1 1;glass b q 0 5 1 1;").richest(), 2);
        Check.due("all have none", Check.told("man p;man q;").richest(), 0);
        Check.due("the fifth", Check.told("man p;man q;man r;man s;man t;glass a t 0 1 1 1;").richest(), 4);
        Check.sentence("`int richest()`: NONE: there are no PEOPLE.");
        Check.due("of a new one", new SandHours().richest(), -1);
        Check.due("LINES, but no PEOPLE", Check.told("sieve 1;damp 1;").richest(), -1);
        Check.sentence("RICHEST in n MINUTES 0 .. 200 as it goes; NONE: no such n, no PEOPLE.");
        SandHours y = Check.told("man p;man q;glass a p 0 9 1 1;glass b q 0 8 1 1;pay a b 2 5;pay b a 99 99;law flow minute = 98;");
        Check.due("in 0", y.richestIn(0), 0);
        Check.due("in 2", y.richestIn(2), 0);
        Check.due("in 3", y.richestIn(3), 1);
        Check.due("in 99", y.richestIn(99), 1);
        Check.due("in 100", y.richestIn(100), 0);
        Check.due("in 200", y.richestIn(200), 0);
        for (int n : new int[] {Integer.MIN_VALUE, -1, 201, Integer.MAX_VALUE}) {
            Check.due("n " + n, y.richestIn(n), -1);
        }
        Check.due("no PEOPLE", new SandHours().richestIn(0), -1);
        Check.due("first of several", Check.told("man p;man q;").richestIn(200), 0);
    }

    private static void share() {
        Check.sentence("SHARE of a GLASS by two: if both TURN it at one, neither has any. A REST: neither would have more otherwise.");
        SandHours none = Check.told("man p;glass a p 0 0 1 1;");
        Check.due("nothing to have: all are", none.rests(0), 16);
        int k = 0;
        for (int first = 0; first < 4; first++) {
            for (int second = 0; second < 4; second++) {
                Check.due("by the first one's, then the second one's", none.rest(0, k), 10 * first + second);
                k++;
            }
        }
        // of those now ABOVE only the second TURN has any: 4 - its MINUTE
        SandHours above = Check.told("man p;glass a p 99 0 1 1;");
        Check.due("none BELOW", above.rests(0), 3);
        Check.due("23", above.rest(0, 0), 23);
        Check.due("32", above.rest(0, 1), 32);
        Check.due("33", above.rest(0, 2), 33);
        SandHours below = Check.told("man p;glass a p 0 30 1 1;");
        Check.due("none ABOVE", below.rests(0), 2);
        Check.due("02", below.rest(0, 0), 2);
        Check.due("20", below.rest(0, 1), 20);
        for (int a = 0; a <= 40; a += 3) {
            for (int b = 0; b <= 40; b += 5) {
                for (int neck = 1; neck <= 9; neck += 4) {
                    sharedAs(a, b, neck);
                }
            }
        }
        Check.sentence("`int rests(int glass)`: NONE: no such GLASS.");
        Check.due("glass 1", below.rests(1), -1);
        for (int far : FAR) {
            Check.due("glass " + far, below.rests(far), -1);
        }
        Check.sentence("-2: there are no so many; NONE likewise, k is below 0.");
        Check.due("k 2", below.rest(0, 2), -2);
        Check.due("k 15 of 16", none.rest(0, 15), 33);
        Check.due("k 16 of 16", none.rest(0, 16), -2);
        Check.due("k far", none.rest(0, Integer.MAX_VALUE), -2);
        Check.due("k 0 of none", Check.told(TWO).rest(0, 0), -2);
        Check.due("k -1", none.rest(0, -1), -1);
        Check.due("k far below 0", none.rest(0, Integer.MIN_VALUE), -1);
        Check.due("glass 1", none.rest(1, 0), -1);
        Check.due("glass 1, k far", none.rest(1, 99), -1);
        for (int far : FAR) {
            Check.due("glass " + far, none.rest(far, 0), -1);
        }
    }

    /** Grain by grain: what each has. */
    private static int[] haves(int above, int below, int neck, int first, int second) {
        int[] has = new int[2];
        int top = above;
        int bottom = below;
        int who = -1;
        for (int minute = 0; minute < 4; minute++) {
            boolean both = first == minute && second == minute;
            if (both) {
                return new int[2];
            }
            if (first == minute || second == minute) {
                who = first == minute ? 0 : 1;
                int t = top;
                top = bottom;
                bottom = t;
            }
            for (int grain = 0; grain < neck && who >= 0 && top > 0; grain++) {
                top--;
                bottom++;
                has[who]++;
            }
        }
        return has;
    }

    private static void sharedAs(int above, int below, int neck) {
        SandHours x = Check.told("man p;glass a p " + above + " " + below + " " + neck + " 1;");
        int k = 0;
        for (int first = 0; first < 4; first++) {
            for (int second = 0; second < 4; second++) {
                int[] has = haves(above, below, neck, first, second);
                boolean rest = true;
                for (int other = 0; other < 4; other++) {
                    rest &= haves(above, below, neck, other, second)[0] <= has[0];
                    rest &= haves(above, below, neck, first, other)[1] <= has[1];
                }
                if (rest) {
                    Check.due("rest " + k + " of " + above + " " + below + " " + neck, x.rest(0, k), 10 * first + second);
                    k++;
                }
            }
        }
        Check.due("rests of " + above + " " + below + " " + neck, x.rests(0), k);
    }

    private static void let() {
        Check.sentence("LET of a PERSON for a sum: the one of which just so many GRAINS run in the fewest MINUTES, the first of several.");
        SandHours x = Check.told("man p;man q;glass a p 10 0 2 1;glass b p 20 0 3 1;glass c q 99 0 1 1;glass d p 12 0 6 1;glass e p 12 0 6 1;");
        Check.due("6: d in 1", x.let(0, 6, 0), 3);
        Check.due("6: in 1", x.let(0, 6, 1), 1);
        Check.due("12: d in 2", x.let(0, 12, 0), 3);
        Check.due("12: in 2", x.let(0, 12, 1), 2);
        Check.due("3: b", x.let(0, 3, 0), 1);
        Check.due("10: all of a in 5", x.let(0, 10, 0), 0);
        Check.due("10: all of a in 5", x.let(0, 10, 1), 5);
        Check.due("20: all of b in 7", x.let(0, 20, 0), 1);
        Check.due("20: all of b in 7", x.let(0, 20, 1), 7);
        Check.due("18: b in 6", x.let(0, 18, 1), 6);
        Check.due("99: its own", x.let(1, 99, 1), 99);
        Check.sentence("no more than there are ABOVE");
        Check.due("21", x.let(0, 21, 0), -2);
        Check.due("100", x.let(1, 100, 0), -2);
        Check.due("just all of it", x.let(1, 99, 0), 2);
        Check.sentence("NECK in each (half, cut, if it is WET)");
        SandHours wet = goneOn("man p;glass a p 50 0 9 1;glass b p 9 0 1 1;damp 100;", 1);
        Check.due("4 ran", wet.glass(0, 1), 46);
        Check.due("8 in 2", wet.let(0, 8, 1), 2);
        Check.due("9 are not just that", wet.let(0, 9, 0), -2);
        Check.due("46 are all, in 12", wet.let(0, 46, 1), 12);
        Check.due("half of 1 is none", wet.let(0, 1, 0), -2);
        Check.sentence("LET (a sum 1 .. 999)");
        Check.due("1", x.let(1, 1, 0), 2);
        Check.due("0", x.let(1, 0, 0), -1);
        Check.due("-1", x.let(1, -1, 0), -1);
        Check.due("999", x.let(1, 999, 0), -2);
        Check.due("1000", x.let(1, 1000, 0), -1);
        SandHours full = Check.brimful("");
        Check.due("999 of 999", full.let(0, 999, 0), 1);
        Check.due("999 in 111", full.let(0, 999, 1), 111);
        Check.sentence("LET -2: by none");
        Check.due("the GLASS", x.let(0, 1, 0), -2);
        Check.due("the MINUTES", x.let(0, 1, 1), -2);
        Check.due("without GLASSES", Check.told("man p;").let(0, 1, 1), -2);
        Check.sentence("`int let(int man, int sum, int what)`: NONE: no such ones.");
        Check.due("man 2", x.let(2, 6, 0), -1);
        Check.due("what 2", x.let(0, 6, 2), -1);
        for (int far : FAR) {
            Check.due("man " + far, x.let(far, 6, 0), -1);
            Check.due("what " + far, x.let(0, 6, far), -1);
        }
        Check.due("far", x.let(0, Integer.MAX_VALUE, 0), -1);
        Check.due("far", x.let(0, Integer.MIN_VALUE, 0), -1);
    }

    private static void nextShort() {
        String two = "man p;glass a p 0 9 1 1;glass b p 0 0 1 1;law flow 0;";
        Check.sentence("In how many MINUTES as it goes (1: this one), what 0: a PAYMENT is SHORT next, 1: which one, the first of several.");
        SandHours x = Check.told(two + "pay a b 5 9;pay a b 7 1;pay b a 7 1;pay a b 99 1;");
        Check.due("in 8", x.nextShort(0), 8);
        Check.due("the second", x.nextShort(1), 1);
        x.go(7);
        Check.due("this one", x.nextShort(0), 1);
        Check.due("the second", x.nextShort(1), 1);
        x.go(1);
        Check.due("the next one", x.nextShort(0), 92);
        Check.due("the fourth", x.nextShort(1), 3);
        SandHours late = Check.told(two + "pay b a 99 1;");
        Check.due("in 100", late.nextShort(0), 100);
        Check.due("the first", late.nextShort(1), 0);
        Check.sentence("200 at most; -2: not by then");
        x.go(92);
        Check.due("none is left", x.nextShort(0), -2);
        Check.due("none is left", x.nextShort(1), -2);
        Check.due("none is SHORT", Check.told(two + "pay a b 5 9;").nextShort(0), -2);
        Check.due("none told", Check.told(two).nextShort(1), -2);
        Check.due("of a new one", new SandHours().nextShort(0), -2);
        Check.sentence("`int nextShort(int what)`: NONE for another what.");
        Check.due("what 2", x.nextShort(2), -1);
        for (int far : FAR) {
            Check.due("what " + far, x.nextShort(far), -1);
        }
    }

    private static void heaviest() {
        Check.sentence("The GLASS with most GRAINS, the first of several");
        Check.due("above and below", Check.told("man p;glass a p 5 6 1 1;glass b p 12 0 1 1;glass c p 0 12 1 1;").heaviest(), 1);
        Check.due("by one more", Check.told("man p;glass a p 5 6 1 1;glass b p 12 0 1 1;glass c p 1 12 1 1;").heaviest(), 2);
        Check.due("all have none", Check.told(glasses(8, "0 0 1 1")).heaviest(), 0);
        Check.due("the eighth", Check.told(glasses(7, "0 0 1 1") + "glass z p 0 1 1 1;").heaviest(), 7);
        Check.sentence("`int heaviest()`: NONE: there are no GLASSES.");
        Check.due("of a new one", new SandHours().heaviest(), -1);
        Check.due("PEOPLE alone", Check.told("man p;").heaviest(), -1);
    }

    private static void wets() {
        Check.sentence("GLASSES (bits) that are WET.");
        Check.due("of a new one", new SandHours().wets(), 0);
        SandHours x = Check.told(glasses(8, "0 0 1 1") + "damp 100;");
        Check.due("none", x.wets(), 0);
        x.go(1);
        Check.due("all eight", x.wets(), 255);
        x.dry(0);
        x.dry(7);
        Check.due("without the first and the last", x.wets(), 126);
    }

    private static void sift() {
        Check.sentence("GRAINS now in GLASSES whose sand goes through a SIEVE of MESH 1 .. 9");
        SandHours x = Check.told("man p;glass a p 1 2 1 1;glass b p 10 20 1 5;glass c p 30 40 1 9;");
        int[] want = {3, 3, 3, 3, 33, 33, 33, 33, 103};
        for (int mesh = 1; mesh <= 9; mesh++) {
            Check.due("mesh " + mesh, x.sift(mesh), want[mesh - 1]);
        }
        Check.due("of a new one", new SandHours().sift(9), 0);
        Check.sentence("`int sift(int mesh)`: NONE: no such MESH.");
        for (int mesh : new int[] {Integer.MIN_VALUE, -1, 0, 10, 11, Integer.MAX_VALUE}) {
            Check.due("mesh " + mesh, x.sift(mesh), -1);
        }
    }

    private static void rank() {
        Check.sentence("How many PEOPLE have more WEALTH than one, or as much and a lesser number");
        SandHours x = Check.told("man p;man q;man r;man s;man t;glass a q 5 0 1 1;glass b r 0 6 1 1;glass c t 3 2 1 1;");
        int[] want = {3, 1, 0, 4, 2};
        for (int man = 0; man < 5; man++) {
            Check.due("rank of " + man, x.rank(man), want[man]);
        }
        Check.due("alone", Check.told("man p;").rank(0), 0);
        Check.sentence("`int rank(int man)`: NONE: no such PERSON.");
        Check.due("man 5", x.rank(5), -1);
        for (int far : FAR) {
            Check.due("man " + far, x.rank(far), -1);
        }
        Check.due("of a new one", new SandHours().rank(0), -1);
    }

    private static void toCome() {
        Check.sentence("PAYMENTS (bits) that aren't yet.");
        SandHours x = Check.told("man p;glass a p 0 9 1 1;glass b p 0 9 1 1;" + "pay a b 0 1;pay b a 1 50;".repeat(4) + "pay a b 99 1;pay a b 2 1;");
        Check.due("all ten", x.toCome(), 1023);
        x.go(1);
        Check.due("those of MINUTE 0 are", x.toCome(), 1023 - 85);
        x.go(1);
        Check.due("SHORT ones are no more to come", x.toCome(), 768);
        x.go(97);
        Check.due("the one of 99", x.toCome(), 256);
        x.go(1);
        Check.due("none", x.toCome(), 0);
        Check.due("of a new one", new SandHours().toCome(), 0);
    }

    private static void see() {
        String one = "man p;glass a p 50 0 2 3;glass b p 99 99 9 3;";
        Check.sentence("SEEN, at most 24, numbered from 0 on");
        SandHours x = Check.told(one);
        for (int k = 0; k < 24; k++) {
            Check.due("its number", x.see(1, 0, 0, true), k);
        }
        Check.due("there are 24", x.see(1, 0, 0, true), -1);
        Check.due("24", x.count(11), 24);
        Check.sentence("behind so many MINUTES 1 .. 99");
        SandHours y = Check.told(one);
        Check.due("0", y.see(0, 0, 1, true), -1);
        Check.due("100", y.see(100, 0, 1, true), -1);
        Check.due("1", y.see(1, 0, 2, true), 0);
        Check.due("behind the first one", y.necks(0), 0x3fc);
        Check.due("99", y.see(99, 0, 50, true), 1);
        Check.due("99 are enough for any that is 2 at least", y.necks(0), 0x3fc);
        Check.sentence("BELOW of a GLASS was so much 0 .. 999 at least, or less.");
        SandHours z = Check.told(one);
        Check.due("-1", z.see(1, 0, -1, true), -1);
        Check.due("1000", z.see(1, 0, 1000, true), -1);
        Check.due("0", z.see(1, 0, 0, true), 0);
        Check.due("0 at least is always so", z.necks(0), 0x3ff);
        Check.due("999", z.see(1, 0, 999, false), 1);
        Check.due("less than 999", z.necks(0), 0x3ff);
        Check.due("5 at least", z.see(1, 0, 5, true), 2);
        Check.due("just 5 is so", z.necks(0), 0x3e0);
        Check.due("less than 5", z.see(1, 0, 5, false), 3);
        Check.due("neither", z.necks(0), 0);
        SandHours never = Check.told(one);
        never.see(1, 0, 0, false);
        Check.due("less than 0 is never so", never.necks(0), 0);
        SandHours most = Check.told(one);
        most.see(99, 1, 198, true);
        Check.due("all of it ran by 2 and more", most.necks(1), 0x3fe);
        Check.sentence("`int see(int minutes, int glass, int below, boolean atLeast)`: NONE: no such ones, or there are 24.");
        SandHours far = Check.told(one);
        for (int number : FAR) {
            Check.due("glass " + number, far.see(1, number, 1, true), -1);
        }
        for (int number : new int[] {Integer.MIN_VALUE, -1, 1000, Integer.MAX_VALUE}) {
            Check.due("minutes " + number, far.see(number, 0, 1, true), -1);
            Check.due("below " + number, far.see(1, 0, number, false), -1);
        }
        Check.due("glass 2", far.see(1, 2, 1, true), -1);
        Check.due("none was SEEN", far.count(11), 0);
        Check.due("of a new one", new SandHours().see(1, 0, 1, true), -1);
        Check.sentence("(as it goes from the TEXT on, nothing done by call)");
        SandHours done = Check.told("man p;glass a p 50 7 2 3;glass b p 0 0 1 1;damp 50;");
        done.flip(0);
        done.pour(0, 1, 9);
        done.go(9);
        done.dry(0);
        done.see(1, 0, 9, true);
        Check.due("WET from MINUTE 0 on: half of 4 at least", done.necks(0), 0x3f0);
        done.see(1, 0, 10, false);
        Check.due("half of 4 or 5", done.necks(0), 0x30);
    }

    private static void strike() {
        String one = "man p;glass a p 50 0 2 3;";
        Check.sentence("`int strike(int seen)`: A STRIKE: its number; NONE: no such one SEEN, or there are 24.");
        SandHours x = Check.told(one);
        Check.due("none SEEN", x.strike(0), -1);
        Check.due("of a new one", new SandHours().strike(0), -1);
        x.see(1, 0, 3, true);
        Check.due("itself isn't SEEN yet", x.strike(1), -1);
        for (int far : FAR) {
            Check.due("strike " + far, x.strike(far), -1);
        }
        Check.due("the first", x.strike(0), 1);
        Check.due("a STRIKE may be STRUCK", x.strike(1), 2);
        for (int k = 3; k < 24; k++) {
            Check.due("its number", x.strike(k - 1), k);
        }
        Check.due("there are 24", x.strike(0), -1);
        Check.due("there are 24", x.strike(23), -1);
        Check.due("there are 24", x.see(1, 0, 3, true), -1);
        Check.sentence("(a STRIKE may be STRUCK: then it doesn't count; asked from the last one on)");
        // 23 STRIKES, each of the one ahead of it: the last one counts, so the first one does, too
        Check.due("an odd number of them", x.necks(0), 0x3ff);
        Check.due("known by 23", x.known(23), true);
        Check.due("an even number of them", x.necks(0), 0x3f8);
        Check.due("known by 2", x.known(2), true);
        Check.due("one of them", x.necks(0), 0x3ff);
        Check.due("known by 1", x.known(1), true);
        Check.due("none of them", x.necks(0), 0x3f8);
        SandHours twice = Check.told(one);
        twice.see(1, 0, 3, true);
        twice.strike(0);
        twice.strike(0);
        twice.strike(1);
        Check.due("one of two STRIKES is STRUCK", twice.necks(0), 0x3ff);
        twice.strike(2);
        Check.due("both are", twice.necks(0), 0x3f8);
    }

    private static void known() {
        SandHours x = Check.told("man p;glass a p 50 0 2 3;");
        Check.sentence("KNOWN by n from now on (-1: by all, also those to come): true");
        Check.due("all at first", x.see(1, 0, 3, true), 0);
        Check.due("all at first", x.necks(0), 0x3f8);
        Check.due("0", x.known(0), true);
        Check.due("by none", x.necks(0), 0x3ff);
        Check.due("by 0", x.count(12), 0);
        x.see(1, 0, 5, false);
        Check.due("0 still", x.necks(0), 0x3ff);
        Check.due("2 of 2", x.known(2), true);
        Check.due("both", x.necks(0), 0x18);
        x.strike(1);
        Check.due("a STRIKE to come isn't", x.necks(0), 0x18);
        Check.due("-1", x.known(-1), true);
        Check.due("it is", x.necks(0), 0x3f8);
        x.see(1, 0, 9, true);
        Check.due("also those to come", x.necks(0), 0x200);
        Check.due("by 1", x.known(1), true);
        Check.due("the first alone", x.necks(0), 0x3f8);
        Check.sentence("`boolean known(int n)`: false: no such n.");
        Check.due("5 of 4", x.known(5), false);
        Check.due("-2", x.known(-2), false);
        for (int far : new int[] {Integer.MIN_VALUE, -3, 24, 25, Integer.MAX_VALUE}) {
            Check.due("known(" + far + ")", x.known(far), false);
        }
        Check.due("by 1 still", x.count(12), 1);
        Check.due("4 of 4", x.known(4), true);
        Check.due("1 of 0", new SandHours().known(1), false);
        Check.due("0 of 0", new SandHours().known(0), true);
        SandHours full = Check.told("man p;glass a p 50 0 2 3;");
        for (int k = 0; k < 24; k++) {
            full.see(1, 0, 0, true);
        }
        Check.due("24 of 24", full.known(24), true);
        Check.due("25 of 24", full.known(25), false);
    }

    private static void necks() {
        Check.sentence("NECKS of a GLASS: 0 .. 9 (bits) in place of its own, by which all KNOWN ones are so.");
        SandHours x = Check.told("man p;glass a p 50 0 2 3;glass b p 0 0 1 1;pay a b 2 4;law tax neck;");
        Check.due("none SEEN: all", x.necks(0), 0x3ff);
        x.see(1, 0, 1, false);
        Check.due("0 is one of them", x.necks(0), 1);
        x.strike(0);
        x.see(1, 0, 9, true);
        Check.due("9 is one of them", x.necks(0), 0x200);
        x.strike(2);
        x.see(3, 1, 1, true);
        Check.due("b has some: a has paid 4, neck is TAXED", x.necks(0), 0xe);
        x.strike(4);
        Check.due("its own isn't one, b: 1", x.necks(1), 0x3ff);
        x.see(99, 0, 999, true);
        Check.due("by none", x.necks(0), 0);
        Check.due("by none", x.necks(1), 0);
        Check.due("it is as it was", x.glass(0, 3), 2);
        Check.sentence("`int necks(int glass)`: NONE: no such GLASS.");
        Check.due("glass 2", x.necks(2), -1);
        for (int far : FAR) {
            Check.due("glass " + far, x.necks(far), -1);
        }
        Check.due("of a new one", new SandHours().necks(0), -1);
    }

    /** How often each of some dry glasses is WET in ten times. */
    private static int[] drawn(long seed, int damp, int n, int glasses) {
        BigInteger last = BigInteger.valueOf(seed);
        int[] times = new int[glasses];
        for (int time = 0; time < 10; time++) {
            boolean[] wet = new boolean[glasses];
            for (int m = 0; m < n; m++) {
                for (int g = 0; g < glasses; g++) {
                    if (!wet[g]) {
                        last = last.multiply(BigInteger.valueOf(1103515245)).add(BigInteger.valueOf(12345)).mod(BigInteger.TWO.pow(31));
                        wet[g] = last.shiftRight(16).intValue() % 100 < damp;
                    }
                }
            }
            for (int g = 0; g < glasses; g++) {
                times[g] += wet[g] ? 1 : 0;
            }
        }
        return times;
    }

    private static void chance() {
        Check.sentence("In how many of ten times drawn (numbers from a seed 0 .. 2147483647 on, one behind another; n 1 .. 99 MINUTES)");
        for (int seed : new int[] {0, 1, 65536, 99999, 2147483646, 2147483647}) {
            for (int n : new int[] {1, 2, 5, 98, 99}) {
                for (int damp : new int[] {1, 30, 99}) {
                    SandHours x = Check.told(glasses(3, "9 9 1 1") + "damp " + damp + ";seed 5;");
                    int[] want = drawn(seed, damp, n, 3);
                    for (int g = 0; g < 3; g++) {
                        Check.due("seed " + seed + " n " + n + " damp " + damp, x.chance(seed, n, g), want[g]);
                    }
                }
            }
        }
        Check.sentence("a GLASS is WET then");
        Check.due("damp 100", Check.told(TWO + "damp 100;").chance(0, 1, 0), 10);
        Check.due("damp 0", Check.told(TWO + "damp 0;").chance(0, 99, 0), 0);
        SandHours wet = goneOn(TWO + "damp 30;", 1);
        Check.due("the first one is WET now", wet.chance(7, 1, 0), 10);
        Check.due("it draws no number", wet.chance(7, 3, 1), drawn(7, 30, 3, 1)[0]);
        Check.due("it is as it was", wet.wets(), 1);
        Check.sentence("`int chance(int seed, int n, int glass)`: NONE: no such ones.");
        SandHours x = Check.told(TWO + "damp 30;");
        Check.due("seed -1", x.chance(-1, 1, 0), -1);
        Check.due("seed far below", x.chance(Integer.MIN_VALUE, 1, 0), -1);
        Check.due("n 0", x.chance(0, 0, 0), -1);
        Check.due("n 100", x.chance(0, 100, 0), -1);
        Check.due("glass 2", x.chance(0, 1, 2), -1);
        for (int far : FAR) {
            Check.due("glass " + far, x.chance(0, 1, far), -1);
        }
        for (int far : new int[] {Integer.MIN_VALUE, -1, 1000, Integer.MAX_VALUE}) {
            Check.due("n " + far, x.chance(0, far, 0), -1);
        }
    }

    private static void tried() {
        Check.sentence("TRIED for n MINUTES as it goes: GRAINS in all GLASSES then: 0 no damp");
        String one = "man p;glass a p 80 0 8 1;";
        SandHours damp = Check.told(one + "damp 50;law wind below;");
        // behind ten MINUTES 40 ran WET, 80 dry
        Check.due("as it goes", damp.ahead(10, 3, 0), 40);
        Check.due("no damp", damp.tried(0, 0, 10), 80 - 80);
        Check.sentence("1 no wind");
        Check.due("no wind", damp.tried(1, 0, 10), 80);
        Check.sentence("2 GLASS i pays nothing");
        SandHours paying = Check.told(TWO + "pay a b 0 5;pay b a 0 9;law tax 3;");
        Check.due("as it goes", paying.tried(4, 0, 1), 65 - 6);
        Check.due("a", paying.tried(2, 0, 1), 65 - 3);
        Check.due("b", paying.tried(2, 1, 1), 65 - 3);
        Check.sentence("3 no tax");
        Check.due("no tax", paying.tried(3, 0, 1), 65);
        Check.sentence("4 no TURNS.");
        SandHours turned = Check.told("man p;glass a p 9 0 1 1;glass b p 0 0 1 1;turn a 0;pay a b 0 9;law tax 9;");
        Check.due("as it goes", turned.tried(0, 0, 1), 0);
        Check.due("no TURNS", turned.tried(4, 0, 1), 9);
        Check.sentence("TRIED (n 0 .. 200)");
        Check.due("0", turned.tried(0, 0, 0), 9);
        Check.due("200", turned.tried(4, 0, 200), 9);
        for (int what = 0; what <= 4; what++) {
            for (int far : new int[] {Integer.MIN_VALUE, -1, 201, Integer.MAX_VALUE}) {
                Check.due("n " + far, turned.tried(what, 0, far), -1);
            }
        }
        Check.sentence("`int tried(int what, int i, int n)`: NONE: no such ones (i 0 of all but 2).");
        for (int what : new int[] {0, 1, 3, 4}) {
            Check.due("what " + what + " i 0", turned.tried(what, 0, 0), 9);
            Check.due("what " + what + " i 1", turned.tried(what, 1, 0), -1);
            Check.due("what " + what + " i -1", turned.tried(what, -1, 0), -1);
        }
        Check.due("glass 1", turned.tried(2, 1, 0), 9);
        Check.due("glass 2", turned.tried(2, 2, 0), -1);
        for (int far : FAR) {
            Check.due("glass " + far, turned.tried(2, far, 0), -1);
            Check.due("what " + far, turned.tried(far, 0, 0), -1);
        }
        Check.due("what 5", turned.tried(5, 0, 0), -1);
        Check.due("of a new one", new SandHours().tried(0, 0, 9), 0);
        Check.due("of a new one", new SandHours().tried(2, 0, 9), -1);
        askedOneBehindAnother();
    }

    /** What one call leaves out or puts in another place is as it was for the next one. */
    private static void askedOneBehindAnother() {
        Check.sentence("TRIED, NECKS: what was tried otherwise is as it was");
        String text = "man p;glass a p 9 40 2 3;glass b p 0 0 1 1;damp 50;turn a 0;pay a b 1 5;law tax 2;law wind below / 4 + wet;";
        SandHours fresh = Check.told(text);
        int above = fresh.ahead(10, 0, 0);
        int below = fresh.ahead(10, 1, 0);
        int wealth = fresh.ahead(10, 3, 0);
        SandHours x = Check.told(text);
        for (int what = 0; what <= 5; what++) {
            Check.due("asked " + what, what < 5 ? x.tried(what, 0, 10) >= 0 : x.necks(0) == 0x3ff, true);
            Check.due("ABOVE behind " + what, x.ahead(10, 0, 0), above);
            Check.due("tried " + what, what < 5 ? x.tried(what, 0, 10) >= 0 : x.necks(0) == 0x3ff, true);
            Check.due("empty behind " + what, x.empty(0), Check.told(text).empty(0));
            Check.due("tried " + what, what < 5 ? x.tried(what, 0, 10) >= 0 : x.necks(0) == 0x3ff, true);
            Check.due("vigil behind " + what, x.vigil(0, 30), Check.told(text).vigil(0, 30));
            Check.due("tried " + what, what < 5 ? x.tried(what, 0, 10) >= 0 : x.necks(0) == 0x3ff, true);
            Check.due("BELOW behind " + what, x.ahead(10, 1, 0), below);
            Check.due("WEALTH behind " + what, x.ahead(10, 3, 0), wealth);
            SandHours y = Check.told(text);
            SandHours z = Check.told(text);
            Check.due("tried " + what, what < 5 ? y.tried(what, 0, 10) >= 0 : y.necks(0) == 0x3ff, true);
            y.go(12);
            z.go(12);
            Check.same("gone on behind " + what, Check.picture(y), Check.picture(z));
        }
    }
}
