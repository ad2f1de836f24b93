/** Promises 34 to 39: what was seen, necks, chance, tried. */
public final class SeenTest {
    public static void main(String[] args) {
        seeing();
        striking();
        knowing();
        necks();
        chance();
        tried();
        Check.end();
    }

    private static void seeing() {
        SandHours x = Check.told("man p;glass a p 50 0 2 3;");
        Check.due("minutes 0", x.see(0, 0, 1, true), -1);
        Check.due("minutes 100", x.see(100, 0, 1, true), -1);
        Check.due("glass 1", x.see(1, 1, 1, true), -1);
        Check.due("glass -1", x.see(1, -1, 1, true), -1);
        Check.due("below -1", x.see(1, 0, -1, true), -1);
        Check.due("below 1000", x.see(1, 0, 1000, true), -1);
        Check.due("no such one", x.strike(0), -1);
        Check.due("the first", x.see(99, 0, 999, false), 0);
        Check.due("the second", x.see(1, 0, 0, true), 1);
        Check.due("no such one", x.strike(2), -1);
        Check.due("no such one", x.strike(-1), -1);
        for (int k = 2; k < 24; k++) {
            Check.due("see", k % 2 == 0 ? x.see(1, 0, 0, true) : x.strike(k - 1), k);
        }
        Check.due("there are 24", x.see(1, 0, 0, true), -1);
        Check.due("there are 24", x.strike(0), -1);
        Check.due("count(11)", x.count(11), 24);
        Check.due("count(12)", x.count(12), 24);
    }

    private static void striking() {
        SandHours x = Check.told("man p;glass a p 50 0 2 3;");
        x.see(1, 0, 3, true);
        Check.due("3 at least", x.necks(0), 0x3f8);
        x.see(1, 0, 5, false);
        Check.due("less than 5", x.necks(0), 0x18);
        x.strike(0);
        Check.due("the first is struck", x.necks(0), 0x1f);
        x.strike(2);
        Check.due("the strike is struck", x.necks(0), 0x18);
        x.strike(3);
        Check.due("that strike is struck", x.necks(0), 0x1f);
        x.strike(0);
        Check.due("struck twice", x.necks(0), 0x1f);
        x.strike(4);
        Check.due("still struck by the other one", x.necks(0), 0x1f);
        x.strike(1);
        Check.due("both are struck", x.necks(0), 0x3ff);
    }

    private static void knowing() {
        SandHours x = Check.told("man p;glass a p 50 0 2 3;");
        Check.due("known(1)", x.known(1), false);
        Check.due("known(-2)", x.known(-2), false);
        Check.due("known(0)", x.known(0), true);
        x.see(1, 0, 3, true);
        x.see(1, 0, 5, false);
        x.strike(0);
        Check.due("by none", x.necks(0), 0x3ff);
        Check.due("count(12)", x.count(12), 0);
        Check.due("known(1)", x.known(1), true);
        Check.due("by one", x.necks(0), 0x3f8);
        Check.due("known(2)", x.known(2), true);
        Check.due("by two, not yet struck", x.necks(0), 0x18);
        Check.due("known(4)", x.known(4), false);
        Check.due("still by two", x.count(12), 2);
        Check.due("known(3)", x.known(3), true);
        x.see(1, 0, 1, false);
        Check.due("by three", x.necks(0), 0x1f);
        Check.due("known(-1)", x.known(-1), true);
        Check.due("by all", x.necks(0), 1);
        x.strike(3);
        Check.due("also those to come", x.necks(0), 0x1f);
        Check.due("count(12)", x.count(12), 5);
    }

    private static void necks() {
        SandHours x = Check.told("man p;glass a p 50 0 2 3;glass b p 0 0 1 1;pay a b 2 4;law flow neck * (1 + wet);damp 50;");
        Check.due("necks(2)", x.necks(2), -1);
        Check.due("necks(-1)", x.necks(-1), -1);
        x.flip(0);
        x.go(20);
        x.see(1, 0, 8, true);
        Check.due("from the text on, as it goes", x.necks(0), 0x3f0);
        x.see(3, 1, 2, true);
        Check.due("of other glasses, too", x.necks(0), 0x3f0);
        Check.due("another neck", x.necks(1), 0);
        x.strike(0);
        Check.due("another neck", x.necks(1), 0x3fe);
    }

    private static void chance() {
        // seed 0: 0, 68, 88, 17, 98, 27 ...; one glass that draws each minute while it is dry
        SandHours x = Check.told("man p;glass a p 50 0 2 3;glass b p 50 0 2 3;damp 30;");
        Check.due("now dry", x.wets(), 0);
        int first = x.chance(0, 1, 0);
        int second = x.chance(0, 1, 1);
        int[] want = drawn(0, 1);
        Check.due("chance(0, 1, 0)", first, want[0]);
        Check.due("chance(0, 1, 1)", second, want[1]);
        want = drawn(2147483647, 4);
        Check.due("chance(2147483647, 4, 0)", x.chance(2147483647, 4, 0), want[0]);
        Check.due("chance(2147483647, 4, 1)", x.chance(2147483647, 4, 1), want[1]);
        Check.due("nothing has changed", x.wets(), 0);
        Check.due("seed -1", x.chance(-1, 1, 0), -1);
        Check.due("n 0", x.chance(0, 0, 0), -1);
        Check.due("n 100", x.chance(0, 100, 0), -1);
        Check.due("glass 2", x.chance(0, 1, 2), -1);
        x.go(1);
        Check.due("wet now", x.chance(5, 1, 0), 10);
        Check.due("damp 100", Check.told("man p;glass a p 50 0 2 3;damp 100;").chance(5, 1, 0), 10);
        Check.due("damp 0", Check.told("man p;glass a p 50 0 2 3;").chance(5, 99, 0), 0);
    }

    /** Two dry glasses, damp 30: how often each one is wet in ten times. */
    private static int[] drawn(long seed, int n) {
        long last = seed;
        int[] times = new int[2];
        for (int time = 0; time < 10; time++) {
            boolean[] wet = new boolean[2];
            for (int m = 0; m < n; m++) {
                for (int g = 0; g < 2; g++) {
                    if (!wet[g]) {
                        last = (last * 1103515245L + 12345L) % (1L << 31);
                        wet[g] = last / 65536 % 100 < 30;
                    }
                }
            }
            times[0] += wet[0] ? 1 : 0;
            times[1] += wet[1] ? 1 : 0;
        }
        return times;
    }

    private static void tried() {
        SandHours x = Check.told("man p;glass a p 50 20 4 3;glass b p 0 0 1 1;damp 60;turn a 1;pay a b 3 10;law tax 3;law wind 2 + wet;");
        int now = 70;
        // as it goes both are wet, none runs in b, and wind takes 3 of a alone
        Check.due("as it goes", x.ahead(10, 3, 0), now - 3 - 3);
        Check.due("no damp", x.tried(0, 0, 10), now - 3 - 2 - 2);
        Check.due("no wind", x.tried(1, 0, 10), now - 3);
        Check.due("a pays nothing", x.tried(2, 0, 10), now - 3);
        Check.due("b pays nothing anyway", x.tried(2, 1, 10), now - 6);
        Check.due("no tax", x.tried(3, 0, 10), now - 3);
        Check.due("for none", x.tried(4, 0, 0), now);
        Check.due("what 5", x.tried(5, 0, 1), -1);
        Check.due("what -1", x.tried(-1, 0, 1), -1);
        Check.due("n 201", x.tried(0, 0, 201), -1);
        Check.due("n -1", x.tried(0, 0, -1), -1);
        Check.due("i 1", x.tried(0, 1, 1), -1);
        Check.due("glass 2", x.tried(2, 2, 1), -1);
        Check.due("nothing has changed", x.count(6), now);
        SandHours t = Check.told("man p;glass a p 9 0 1 1;glass b p 0 0 1 1;turn a 0;pay a b 0 9;law tax 9;");
        Check.due("turned: all is taxed", t.ahead(1, 3, 0), 0);
        Check.due("no turns", t.tried(4, 0, 1), 9);
    }
}
