import java.util.Random;

/** Many runs of calls by chance (always the same ones), each answer compared with the Oracle's. */
public final class RandomRunsTest {
    private static final String[] WORDS = {"man", "glass", "turn", "pay", "sieve", "damp", "seed", "law", "flow", "tax", "wind",
        "or", "and", "not", "above", "below", "neck", "coarse", "wet", "paid", "minute", "a", "b", "abcdefg", "abcdef", ";", "(",
        ")", "<", "<=", "=", "<>", ">=", ">", "+", "-", "*", "/", "0", "1", "9", "10", "99", "100", "101", "9999", "10000",
        "99999", "100000", "99999999999999999999", "A", "!", "\t", "\n", "\u00e9", "\u0000", "1a", "<>=", "> ="};

    private final Random random;
    private final SandHours x = new SandHours();
    private final Oracle o = new Oracle();
    private final StringBuilder log = new StringBuilder();

    private RandomRunsTest(long seed) {
        random = new Random(seed);
    }

    private int any(int least, int most) {
        return least + random.nextInt(most - least + 1);
    }

    private boolean one(int of) {
        return random.nextInt(of) == 0;
    }

    private String expression(int depth) {
        String[] names = {"above", "below", "neck", "coarse", "wet", "paid", "minute"};
        String[] signs = {" + ", " - ", " * ", " / ", " < ", " <= ", " = ", " <> ", " >= ", " > ", " and ", " or "};
        if (depth == 0 || one(3)) {
            return one(2) ? names[any(0, 6)] : "" + (one(5) ? any(0, 9999) : any(0, 12));
        }
        if (one(6)) {
            return "(not " + expression(depth - 1) + ")";
        }
        if (one(3)) {
            return "(" + expression(depth - 1) + signs[any(0, 11)] + expression(depth - 1) + ")";
        }
        return expression(depth - 1) + signs[any(0, 3)] + expression(depth - 1);
    }

    private String text() {
        StringBuilder t = new StringBuilder();
        int men = one(20) ? 0 : any(1, one(20) ? 6 : 5);
        int glasses = men == 0 || one(20) ? 0 : any(1, one(20) ? 9 : 8);
        for (int m = 0; m < men; m++) {
            t.append("man ").append((char) ('p' + m)).append(";");
        }
        for (int g = 0; g < glasses; g++) {
            t.append("glass ").append((char) ('a' + g)).append(' ').append((char) ('p' + any(0, men - 1))).append(' ')
                    .append(one(4) ? 0 : any(0, 99)).append(' ').append(any(0, 99)).append(' ').append(any(1, 9)).append(' ')
                    .append(any(1, 9)).append(";");
        }
        int turns = glasses == 0 ? 0 : any(0, 4);
        for (int k = 0; k < turns; k++) {
            t.append("turn ").append((char) ('a' + any(0, glasses - 1))).append(' ').append(any(0, one(3) ? 99 : 12)).append(';');
        }
        int pays = glasses < 2 ? 0 : any(0, one(3) ? 10 : 4);
        for (int k = 0; k < pays; k++) {
            int from = any(0, glasses - 1);
            int to = one(50) ? from : (from + any(1, glasses - 1)) % glasses;
            t.append("pay ").append((char) ('a' + from)).append(' ').append((char) ('a' + to)).append(' ')
                    .append(any(0, one(3) ? 99 : 12)).append(' ').append(any(1, 99)).append(';');
        }
        for (int k = any(0, one(10) ? 7 : 5); k > 0; k--) {
            t.append("sieve ").append(any(1, 9)).append(';');
        }
        if (!one(3)) {
            t.append("damp ").append(one(6) ? 100 : one(6) ? 0 : one(2) ? any(0, 20) : any(0, 100)).append(';');
        }
        if (one(2)) {
            t.append("seed ").append(any(0, 99999)).append(';');
        }
        for (String law : new String[] {"flow", "tax", "wind"}) {
            if (one(2)) {
                t.append("law ").append(law).append(' ').append(expression(any(0, 3))).append(';');
            }
        }
        if (one(4)) {
            spoil(t);
        }
        return t.length() > 700 ? t.substring(0, 700) : t.toString();
    }

    private void spoil(StringBuilder t) {
        for (int k = any(1, 3); k > 0; k--) {
            int at = any(0, t.length());
            if (one(2) && at < t.length()) {
                t.delete(at, Math.min(t.length(), at + any(1, 4)));
            } else {
                t.insert(at, one(2) ? " " + WORDS[any(0, WORDS.length - 1)] + " " : WORDS[any(0, WORDS.length - 1)]);
            }
        }
    }

    /** Tokens by chance: mostly short texts with faults. */
    private String jumble() {
        StringBuilder t = new StringBuilder(one(2) ? "law flow " : "");
        for (int k = any(0, 12); k > 0; k--) {
            t.append(WORDS[any(0, WORDS.length - 1)]).append(one(4) ? "" : " ");
        }
        return t.toString();
    }

    /** An E by chance of tokens that are likely to fit. */
    private String longLaw() {
        StringBuilder t = new StringBuilder("law ").append(WORDS[8 + any(0, 2)]).append(' ');
        String[] operands = {"1", "neck", "not 1", "(2", "(((not wet", "above", "not not below"};
        String[] signs = {"+", "-", "*", "/", " and ", " or ", "<", "<>", ")+", "))or ", ")", "=", ">="};
        for (int k = any(1, one(2) ? 50 : 12); k > 0; k--) {
            t.append(operands[one(2) ? 0 : any(0, 6)]).append(one(3) ? "+" : signs[any(0, one(2) ? 5 : 12)]);
        }
        return t.append("1)))))))).;".substring(0, any(1, 10))).append(";").toString();
    }

    private void say(String call, long got, long want) {
        log.append(call).append(" -> ").append(got).append('\n');
        Check.due(call, got, want);
        if (got != want) {
            System.out.println("in the run:\n" + log);
            Check.end();
        }
    }

    private void tell(String text) {
        log.append("TEXT ").append(text).append('\n');
        for (int at = 0; at < text.length(); at += 20) {
            int a = Check.four(text, at);
            int b = Check.four(text, at + 4);
            int c = Check.four(text, at + 8);
            int d = Check.four(text, at + 12);
            int e = Check.four(text, at + 16);
            say("feed", x.feed(a, b, c, d, e), o.feed(a, b, c, d, e));
        }
        int n = one(30) ? any(-2, 720) : text.length();
        say("text " + n, x.text(n), o.text(n));
        say("fault 0", x.fault(0), o.fault(0));
        say("fault 1", x.fault(1), o.fault(1));
        say("fault 2", x.fault(2), o.fault(2));
    }

    private int glass() {
        return one(25) ? any(-2, 9) : any(0, Math.max(0, o.count(1) - 1));
    }

    private int man() {
        return one(25) ? any(-2, 6) : any(0, Math.max(0, o.count(0) - 1));
    }

    private int minutes(int most) {
        return one(25) ? any(-1, most + 1) : any(0, one(3) ? Math.min(most, 60) : Math.min(most, 12));
    }

    private long glassOf(int g, int what, boolean oracle) {
        try {
            return oracle ? o.glass(g, what) : x.glass(g, what);
        } catch (IndexOutOfBoundsException e) {
            return -1000001;
        } catch (java.util.NoSuchElementException e) {
            return -1000002;
        }
    }

    private void change() {
        int g = glass();
        int h = glass();
        int n = minutes(200);
        switch (any(0, 9)) {
            case 0:
                say("flip " + g, x.flip(g), o.flip(g));
                break;
            case 1: {
                int grains = one(10) ? any(-1, 1001) : any(1, 30);
                say("pour " + g + " " + h + " " + grains, x.pour(g, h, grains), o.pour(g, h, grains));
                break;
            }
            case 2:
                say("dry " + g, x.dry(g) ? 1 : 0, o.dry(g) ? 1 : 0);
                break;
            case 3:
            case 4:
                say("go " + n, x.go(n), o.go(n));
                break;
            case 5:
                say("undo", x.undo(), o.undo());
                break;
            case 6:
                if (one(3)) {
                    say("keep", x.keep(), o.keep());
                } else if (one(3)) {
                    say("back", x.back(), o.back());
                }
                break;
            case 7: {
                int m = one(20) ? any(-1, 101) : any(1, 20);
                int below = one(20) ? any(-1, 1001) : any(0, 150);
                boolean atLeast = below < 40 || one(5);
                say("see " + m + " " + g + " " + below + " " + atLeast, x.see(m, g, below, atLeast), o.see(m, g, below, atLeast));
                break;
            }
            case 8: {
                int s = one(10) ? any(-1, 25) : any(0, Math.max(0, o.count(11) - 1));
                say("strike " + s, x.strike(s), o.strike(s));
                break;
            }
            default: {
                int k = one(2) ? -1 : any(-2, 25);
                say("known " + k, x.known(k) ? 1 : 0, o.known(k) ? 1 : 0);
                break;
            }
        }
    }

    private static String name(int number, int what) {
        return "" + (char) ((what == 0 ? 'p' : 'a') + Math.max(0, number));
    }

    private void look() {
        int g = glass();
        int m = man();
        int what = any(-1, 14);
        switch (any(0, 9)) {
            case 0:
                say("named " + what % 3, x.named(what % 3, Check.letters(name(g, what % 3))),
                        o.named(what % 3, Check.letters(name(g, what % 3))));
                break;
            case 1:
                say("glass " + g + " " + what, glassOf(g, what, false), glassOf(g, what, true));
                break;
            case 2:
                say("man " + m + " " + what % 4, x.man(m, what % 4), o.man(m, what % 4));
                break;
            case 3:
                say("payment " + g + " " + what % 6, x.payment(g, what % 6), o.payment(g, what % 6));
                break;
            case 4:
                say("law " + what % 4 + " " + g, x.law(what % 4, g), o.law(what % 4, g));
                break;
            case 5:
                say("wets", x.wets(), o.wets());
                say("toCome", x.toCome(), o.toCome());
                break;
            case 6:
                say("richest", x.richest(), o.richest());
                say("heaviest", x.heaviest(), o.heaviest());
                break;
            case 7:
                say("sift " + what, x.sift(what), o.sift(what));
                break;
            case 8:
                say("rank " + m, x.rank(m), o.rank(m));
                break;
            default:
                say("count " + what, x.count(what), o.count(what));
                break;
        }
    }

    private int belowOfSome() {
        int sum = one(6) ? 1 : 0;
        for (int g = 0; g < o.count(1); g++) {
            sum += one(3) ? o.glass(g, 2) : 0;
        }
        return sum;
    }

    private void ask() {
        int g = glass();
        int h = glass();
        int m = man();
        int n = minutes(200);
        switch (any(0, 8)) {
            case 0: {
                int what = any(-1, 5);
                say("ahead " + n + " " + what + " " + g, x.ahead(n, what, g), o.ahead(n, what, g));
                break;
            }
            case 1:
                say("empty " + g, x.empty(g), o.empty(g));
                break;
            case 2: {
                int sum = one(20) ? any(-1, 10001) : belowOfSome();
                say("open " + m + " " + sum, x.open(m, sum), o.open(m, sum));
                break;
            }
            case 3: {
                int k = one(10) ? any(-1, 31) : any(1, 20);
                say("vigil " + g + " " + k, x.vigil(g, k), o.vigil(g, k));
                break;
            }
            case 4:
                say("apart", x.apart(), o.apart());
                break;
            case 5:
                say("carry " + g + " " + h, x.carry(g, h), o.carry(g, h));
                say("comes " + g, x.comes(g), o.comes(g));
                break;
            case 6:
                say("even " + m + " " + g, x.even(m, g), o.even(m, g));
                break;
            case 7: {
                int k = any(-1, 7);
                say("staysDry " + g + " " + k, x.staysDry(g, k, 0), o.staysDry(g, k, 0));
                say("staysDry " + g + " " + k + " 1", x.staysDry(g, k, 1), o.staysDry(g, k, 1));
                say("staysDry 2", x.staysDry(g, k, 2), o.staysDry(g, k, 2));
                break;
            }
            default:
                say("rests " + g, x.rests(g), o.rests(g));
                say("rest " + g + " " + h, x.rest(g, h), o.rest(g, h));
                break;
        }
    }

    private void askMore() {
        int g = glass();
        int m = man();
        int n = minutes(200);
        switch (any(0, 5)) {
            case 0: {
                int sum = one(20) ? any(-1, 1001) : any(1, 60);
                int what = one(20) ? any(-1, 2) : any(0, 1);
                say("let " + m + " " + sum + " " + what, x.let(m, sum, what), o.let(m, sum, what));
                break;
            }
            case 1: {
                int what = one(20) ? any(-1, 2) : any(0, 1);
                say("nextShort " + what, x.nextShort(what), o.nextShort(what));
                break;
            }
            case 2:
                say("richestIn " + n, x.richestIn(n), o.richestIn(n));
                break;
            case 3:
                say("necks " + g, x.necks(g), o.necks(g));
                break;
            case 4: {
                int seed = one(10) ? random.nextInt() : any(0, 1000);
                int k = one(20) ? any(-1, 100) : any(1, 20);
                say("chance " + seed + " " + k + " " + g, x.chance(seed, k, g), o.chance(seed, k, g));
                break;
            }
            default: {
                int what = one(20) ? any(-1, 5) : any(0, 4);
                int i = one(20) ? any(-1, 8) : what == 2 ? g : 0;
                say("tried " + what + " " + i + " " + n, x.tried(what, i, n), o.tried(what, i, n));
                break;
            }
        }
    }

    private void run(int calls) {
        // a run without GLASSES says little: most runs try again until there are some
        for (int tries = 0; tries < 8 && (tries == 0 || o.count(1) == 0 && !one(20)); tries++) {
            tell(text());
        }
        for (int k = 0; k < calls; k++) {
            int kind = any(0, 99);
            if (kind < 40) {
                change();
            } else if (kind < 65) {
                look();
            } else if (kind < 82) {
                ask();
            } else if (kind < 98) {
                askMore();
            } else if (one(3)) {
                tell(one(3) ? jumble() : one(2) ? longLaw() : text());
            }
        }
    }

    public static void main(String[] args) {
        int runs = args.length > 0 ? Integer.parseInt(args[0]) : 600;
        int from = args.length > 1 ? Integer.parseInt(args[1]) : 0;
        for (int k = from; k < from + runs; k++) {
            new RandomRunsTest(k).run(120);
        }
        for (int k = from; k < from + runs * 4; k++) {
            RandomRunsTest texts = new RandomRunsTest(k + 7777777L);
            texts.tell(texts.jumble());
            texts.tell(texts.longLaw());
            texts.tell(texts.text());
        }
        Check.end();
    }
}
