/** Promises 14 to 33: what is asked of the state and the text. */
public final class AskTest {
    private static final String BASE = "man p;man q;glass a p 10 5 2 3;glass b p 20 0 3 5;glass c q 0 30 1 3;glass d q 7 9 4 8;"
            + "turn c 1;pay a c 2 6;pay d b 3 9;pay a b 5 99;sieve 4;sieve 6;sieve 3;";

    public static void main(String[] args) {
        ahead();
        asItGoes();
        empty();
        open();
        vigil();
        apart();
        carry();
        comes();
        even();
        staysDry();
        share();
        let();
        nextShort();
        wealth();
        sift();
        Check.end();
    }

    private static void ahead() {
        SandHours x = Check.told(BASE);
        Check.due("ahead(0, 0, 1)", x.ahead(0, 0, 1), 20);
        Check.due("ahead(1, 0, 0)", x.ahead(1, 0, 0), 8);
        Check.due("ahead(2, 1, 3)", x.ahead(2, 1, 3), 16);
        Check.due("ahead(5, 2, 77)", x.ahead(5, 2, 77), 2);
        Check.due("ahead(6, 4, -5)", x.ahead(6, 4, -5), 1);
        Check.due("ahead(6, 3, 0)", x.ahead(6, 3, 0), 38);
        Check.due("ahead(200, 0, 1)", x.ahead(200, 0, 1), 0);
        Check.due("nothing has changed", x.count(5), 0);
        Check.due("n 201", x.ahead(201, 0, 0), -1);
        Check.due("n -1", x.ahead(-1, 0, 0), -1);
        Check.due("what 5", x.ahead(1, 5, 0), -1);
        Check.due("what -1", x.ahead(1, -1, 0), -1);
        Check.due("glass 4", x.ahead(1, 0, 4), -1);
        Check.due("glass -1", x.ahead(1, 1, -1), -1);
        Check.due("man 2", x.ahead(1, 3, 2), -1);
        x.go(6);
        Check.due("more than now: emptied", x.ahead(1, 2, 0), 0);
        Check.due("more than now: short", x.ahead(1, 4, 0), 0);
    }

    private static void asItGoes() {
        SandHours wet = Check.told("man p;glass a p 50 0 4 1;damp 50;");
        Check.due("all grow wet by 50", wet.ahead(3, 1, 0), 6);
        SandHours dry = Check.told("man p;glass a p 50 0 4 1;damp 49;");
        Check.due("none does by 49", dry.ahead(3, 1, 0), 12);
        dry.go(1);
        Check.due("one is wet by its number", dry.wets(), 1);
        Check.due("a wet one stays so", dry.ahead(1, 1, 0), 4);
    }

    private static void empty() {
        SandHours x = Check.told(BASE);
        Check.due("empty(0)", x.empty(0), 5);
        Check.due("empty(2)", x.empty(2), 0);
        Check.due("empty(4)", x.empty(4), -1);
        Check.due("empty(-1)", x.empty(-1), -1);
        Check.due("199 is by then", Check.told("man p;glass a p 99 0 1 1;law flow minute > 99;").empty(0), 199);
        Check.due("200 is not", Check.told("man p;glass a p 99 0 1 1;law flow minute > 100;").empty(0), -2);
    }

    private static void open() {
        SandHours x = Check.told("man p;man q;glass a p 0 5 1 1;glass b p 0 3 1 1;glass c q 0 8 1 1;glass d p 0 8 1 1;glass e p 0 5 1 1;");
        Check.due("none for 0", x.open(0, 0), 0);
        Check.due("one rather than two", x.open(0, 8), 8);
        Check.due("the least of several", x.open(0, 5), 1);
        Check.due("two", x.open(0, 10), 17);
        Check.due("of several pairs the least", x.open(0, 13), 9);
        Check.due("all", x.open(0, 21), 27);
        Check.due("by none", x.open(0, 22), -2);
        Check.due("its own alone", x.open(1, 5), -2);
        Check.due("sum 9999", x.open(0, 9999), -2);
        Check.due("sum 10000", x.open(0, 10000), -1);
        Check.due("sum -1", x.open(0, -1), -1);
        Check.due("man 2", x.open(2, 0), -1);
        StringBuilder eight = new StringBuilder("man p;");
        for (int g = 0; g < 8; g++) {
            eight.append("glass ").append((char) ('a' + g)).append(" p 1 ").append(g + 1).append(" 1 1;");
        }
        Check.due("all eight", Check.told(eight.toString()).open(0, 36), 255);
    }

    private static void vigil() {
        SandHours x = Check.told(BASE);
        Check.due("vigil(0, 4)", x.vigil(0, 4), 0);
        Check.due("vigil(0, 5)", x.vigil(0, 5), 1);
        Check.due("vigil(2, 1)", x.vigil(2, 1), 1);
        Check.due("vigil(0, 0)", x.vigil(0, 0), -1);
        Check.due("vigil(0, 31)", x.vigil(0, 31), -1);
        Check.due("vigil(4, 1)", x.vigil(4, 1), -1);
        Check.due("vigil(-1, 1)", x.vigil(-1, 1), -1);
        Check.due("by none", Check.told("man p;glass a p 2 2 9 1;").vigil(0, 1), -2);
        Check.due("payments and turns don't count", Check.told(
                "man p;glass a p 2 9 1 1;glass b p 0 0 1 1;turn a 0;pay a b 0 9;").vigil(0, 2), 1);
        Check.due("the minute goes on", Check.told("man p;glass a p 9 0 1 1;law flow minute * 5;").vigil(0, 2), 0);
        Check.due("5 are below then, of which 10 run", Check.told(
                "man p;glass a p 9 0 1 1;law flow minute * 5;").vigil(0, 3), -2);
        Check.due("damp doesn't come", Check.told("man p;glass a p 9 0 3 1;damp 100;").vigil(0, 3), 1);
    }

    private static void apart() {
        Check.due("apart", Check.told(BASE).apart(), 3);
        Check.due("no sieves, one sand", Check.told("man p;glass a p 1 1 1 4;glass b p 1 1 1 4;").apart(), 0);
        Check.due("no sieves, two sands", Check.told("man p;glass a p 1 1 1 4;glass b p 1 1 1 5;").apart(), -2);
        Check.due("the least of several", Check.told("man p;glass a p 1 1 1 4;glass b p 1 1 1 6;sieve 3;sieve 5;sieve 4;").apart(), 2);
        Check.due("coarse as the mesh goes through", Check.told("man p;glass a p 1 1 1 4;glass b p 1 1 1 5;sieve 4;").apart(), 1);
        Check.due("by none", Check.told("man p;glass a p 1 1 1 4;glass b p 1 1 1 6;sieve 3;sieve 6;").apart(), -2);
        StringBuilder seven = new StringBuilder("man p;");
        for (int coarse = 1; coarse <= 7; coarse++) {
            seven.append("glass ").append((char) ('a' + coarse)).append(" p 1 1 1 ").append(coarse).append(";");
        }
        Check.due("all six", Check.told(seven + "sieve 1;sieve 2;sieve 3;sieve 4;sieve 5;sieve 6;").apart(), 63);
    }

    private static void carry() {
        SandHours x = Check.told("man p;glass a p 1 1 1 1;glass b p 1 1 1 1;glass c p 1 1 1 1;glass d p 1 1 1 1;glass e p 1 1 1 1;"
                + "pay a b 9 10;pay b d 3 6;pay a c 0 5;pay c d 0 9;pay b c 1 7;pay d e 2 3;pay d e 2 4;");
        Check.due("over others", x.carry(0, 3), 15);
        Check.due("two payments add", x.carry(3, 4), 7);
        Check.due("the narrowest place", x.carry(0, 4), 7);
        Check.due("not back", x.carry(3, 0), 0);
        x.go(50);
        Check.due("whenever they are", x.carry(0, 3), 15);
        Check.due("alike", x.carry(1, 1), -1);
        Check.due("no such one", x.carry(5, 0), -1);
        Check.due("no such other", x.carry(0, -1), -1);
        // the first way found must give room back
        SandHours y = Check.told("man p;glass a p 1 1 1 1;glass b p 1 1 1 1;glass c p 1 1 1 1;glass d p 1 1 1 1;"
                + "pay a b 0 1;pay a c 0 1;pay b c 0 1;pay b d 0 1;pay c d 0 1;");
        Check.due("two ways", y.carry(0, 3), 2);
        // the shortest way 0 1 2 7 stands in the way of both others
        StringBuilder eight = new StringBuilder("man p;");
        for (char name = 'a'; name <= 'h'; name++) {
            eight.append("glass ").append(name).append(" p 1 1 1 1;");
        }
        SandHours z = Check.told(eight + "pay a b 0 1;pay b c 0 1;pay c h 0 1;pay b e 0 1;pay e f 0 1;pay f h 0 1;pay a d 0 1;"
                + "pay d g 0 1;pay g c 0 1;");
        Check.due("two ways, neither the shortest", z.carry(0, 7), 2);
    }

    private static void comes() {
        SandHours x = Check.told(BASE);
        Check.due("comes(0)", x.comes(0), 7);
        Check.due("comes(2)", x.comes(2), 4);
        Check.due("comes(3)", x.comes(3), 10);
        Check.due("comes(4)", x.comes(4), -1);
        Check.due("comes(-1)", x.comes(-1), -1);
        Check.due("over others against their numbers", Check.told("man p;glass a p 1 1 1 1;glass b p 1 1 1 1;glass c p 1 1 1 1;"
                + "pay b a 0 1;pay c b 1 1;").comes(2), 7);
    }

    private static void even() {
        SandHours x = Check.told(BASE);
        Check.due("even(0, 1)", x.even(0, 1), -5);
        Check.due("even(1, 0)", x.even(1, 0), 5);
        Check.due("alike", x.even(1, 1), Integer.MIN_VALUE);
        Check.due("no such one", x.even(2, 1), Integer.MIN_VALUE);
        Check.due("no such other", x.even(0, -1), Integer.MIN_VALUE);
    }

    private static void staysDry() {
        SandHours x = Check.told("man p;glass a p 1 1 1 1;damp 25;");
        Check.due("27 of 64", x.staysDry(0, 3, 0), 27);
        Check.due("27 of 64", x.staysDry(0, 3, 1), 64);
        Check.due("n 0", x.staysDry(0, 0, 0), 1);
        Check.due("n 0", x.staysDry(0, 0, 1), 1);
        SandHours odd = Check.told("man p;glass a p 1 1 1 1;damp 1;");
        Check.due("99 to the 6th", odd.staysDry(0, 6, 0), 941480149401L);
        Check.due("100 to the 6th", odd.staysDry(0, 6, 1), 1000000000000L);
        SandHours all = Check.told("man p;glass a p 1 1 1 1;damp 100;");
        Check.due("never", all.staysDry(0, 2, 0), 0);
        Check.due("never", all.staysDry(0, 2, 1), 1);
        Check.due("now it is", all.staysDry(0, 0, 0), 1);
        all.go(1);
        Check.due("wet now", all.staysDry(0, 0, 0), 0);
        Check.due("wet now", all.staysDry(0, 0, 1), 1);
        Check.due("n 7", x.staysDry(0, 7, 0), -1);
        Check.due("n -1", x.staysDry(0, -1, 0), -1);
        Check.due("what 2", x.staysDry(0, 1, 2), -1);
        Check.due("what -1", x.staysDry(0, 1, -1), -1);
        Check.due("glass 1", x.staysDry(1, 1, 0), -1);
    }

    private static void share() {
        SandHours x = Check.told(BASE);
        Check.due("rests(2)", x.rests(2), 2);
        Check.due("rest(2, 0)", x.rest(2, 0), 2);
        Check.due("rest(2, 1)", x.rest(2, 1), 20);
        Check.due("rest(2, 2)", x.rest(2, 2), -2);
        Check.due("rest(2, -1)", x.rest(2, -1), -1);
        Check.due("rests(0)", x.rests(0), 0);
        Check.due("rest(0, 0)", x.rest(0, 0), -2);
        Check.due("rests(4)", x.rests(4), -1);
        Check.due("rest(4, 0)", x.rest(4, 0), -1);
        Check.due("no sand: all rest", Check.told("man p;glass a p 0 0 1 1;").rests(0), 16);
        Check.due("the last of them", Check.told("man p;glass a p 0 0 1 1;").rest(0, 15), 33);
        SandHours wet = Check.told("man p;glass a p 0 30 1 1;damp 100;");
        wet.go(1);
        Check.due("the neck, wet or not", wet.rests(0), 2);
    }

    private static void let() {
        SandHours x = Check.told(BASE);
        Check.due("let(0, 6, 0)", x.let(0, 6, 0), 1);
        Check.due("let(0, 6, 1)", x.let(0, 6, 1), 2);
        Check.due("the last ones are fewer", x.let(0, 20, 1), 7);
        Check.due("by none", x.let(0, 5, 0), -2);
        Check.due("by none", x.let(0, 5, 1), -2);
        Check.due("more than there are", x.let(0, 21, 0), -2);
        Check.due("let(1, 7, 0)", x.let(1, 7, 0), 3);
        Check.due("sum 0", x.let(0, 0, 0), -1);
        Check.due("sum 1000", x.let(0, 1000, 0), -1);
        Check.due("sum 999", x.let(0, 999, 0), -2);
        Check.due("man 2", x.let(2, 6, 0), -1);
        Check.due("what 2", x.let(0, 6, 2), -1);
        Check.due("the first of several", Check.told("man p;glass a p 9 0 3 1;glass b p 9 0 3 1;").let(0, 6, 0), 0);
        SandHours wet = Check.told("man p;glass a p 90 0 5 1;glass b p 90 0 1 1;damp 100;");
        wet.go(1);
        Check.due("half of 5 is 2", wet.let(0, 6, 1), 3);
        Check.due("one minute is enough", wet.let(0, 2, 1), 1);
        Check.due("a sum of 1", x.let(1, 1, 0), -2);
        Check.due("a sum of 1", Check.told("man p;glass a p 9 0 1 1;").let(0, 1, 1), 1);
        Check.due("half of 1 is none", wet.let(0, 5, 0), -2);
        Check.due("laws of flow don't count", Check.told("man p;glass a p 9 0 3 1;law flow 1;").let(0, 6, 1), 2);
    }

    private static void nextShort() {
        SandHours x = Check.told(BASE);
        Check.due("nextShort(0)", x.nextShort(0), 6);
        Check.due("nextShort(1)", x.nextShort(1), 2);
        Check.due("nextShort(2)", x.nextShort(2), -1);
        Check.due("nextShort(-1)", x.nextShort(-1), -1);
        x.go(5);
        Check.due("this one", x.nextShort(0), 1);
        x.go(1);
        Check.due("not any more", x.nextShort(0), -2);
        SandHours y = Check.told("man p;glass a p 0 9 1 1;glass b p 0 0 1 1;pay b a 99 1;pay a b 99 5;pay a b 99 5;pay a b 99 5;");
        Check.due("the first of several", y.nextShort(1), 0);
        Check.due("in 100", y.nextShort(0), 100);
    }

    private static void wealth() {
        SandHours x = Check.told("man p;man q;man r;man s;glass a q 1 9 1 1;glass b r 0 10 1 1;glass c p 1 1 1 1;glass d r 0 0 1 1;");
        Check.due("the first of several", x.richest(), 1);
        Check.due("rank(0)", x.rank(0), 2);
        Check.due("rank(1)", x.rank(1), 0);
        Check.due("rank(2)", x.rank(2), 1);
        Check.due("rank(3)", x.rank(3), 3);
        Check.due("rank(4)", x.rank(4), -1);
        Check.due("rank(-1)", x.rank(-1), -1);
        Check.due("heaviest", x.heaviest(), 0);
        Check.due("all poor: the first", Check.told("man p;man q;").richest(), 0);
        SandHours y = Check.told("man p;man q;glass a p 0 9 1 1;glass b q 0 8 1 1;pay a b 2 5;");
        Check.due("richestIn(0)", y.richestIn(0), 0);
        Check.due("richestIn(2)", y.richestIn(2), 0);
        Check.due("richestIn(3)", y.richestIn(3), 1);
        Check.due("richestIn(200)", y.richestIn(200), 1);
        Check.due("richestIn(201)", y.richestIn(201), -1);
        Check.due("richestIn(-1)", y.richestIn(-1), -1);
        Check.due("no people", new SandHours().richestIn(1), -1);
        Check.due("no people", new SandHours().richest(), -1);
        Check.due("no glasses", new SandHours().heaviest(), -1);
        SandHours z = Check.told("man p;glass a p 0 9 1 1;glass b p 0 8 1 1;damp 100;");
        Check.due("none wet", z.wets(), 0);
        z.go(1);
        Check.due("both wet", z.wets(), 3);
    }

    private static void sift() {
        SandHours x = Check.told(BASE);
        Check.due("sift(2)", x.sift(2), 0);
        Check.due("sift(3)", x.sift(3), 45);
        Check.due("sift(9)", x.sift(9), 81);
        Check.due("sift(0)", x.sift(0), -1);
        Check.due("sift(10)", x.sift(10), -1);
    }
}
