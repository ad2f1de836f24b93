import java.util.ArrayList;
import java.util.Arrays;
import java.util.HashMap;
import java.util.HashSet;
import java.util.List;
import java.util.Map;
import java.util.Set;

/** The document once more, in the plainest way and without bounds on objects, to compare with. */
final class Oracle {
    static final long ERROR = Long.MIN_VALUE;
    static final Set<String> LANGUAGE = new HashSet<>(Arrays.asList("man", "glass", "turn", "pay", "sieve", "damp", "seed",
            "law", "flow", "tax", "wind", "or", "and", "not", "above", "below", "neck", "coarse", "wet", "paid", "minute"));
    static final List<String> NAMES = Arrays.asList("above", "below", "neck", "coarse", "wet", "paid", "minute");

    static final class Fault extends RuntimeException {
        private static final long serialVersionUID = 1L;
        final int number;
        final int place;

        Fault(int number, int place) {
            this.number = number;
            this.place = place;
        }
    }

    interface Tree {
        long value(long[] names);
    }

    static final class Failed extends RuntimeException {
        private static final long serialVersionUID = 1L;
    }

    static long within(java.math.BigInteger v) {
        java.math.BigInteger most = java.math.BigInteger.TEN.pow(12);
        if (v.abs().compareTo(most) > 0) {
            throw new Failed();
        }
        return v.longValueExact();
    }

    static final class Token {
        final String said;
        final int place;

        Token(String said, int place) {
            this.said = said;
            this.place = place;
        }
    }

    static final class Text {
        final List<String> men = new ArrayList<>();
        final List<String> glassNames = new ArrayList<>();
        final List<int[]> glasses = new ArrayList<>(); // whose above below neck coarse
        final List<int[]> turns = new ArrayList<>();
        final List<int[]> pays = new ArrayList<>();
        final List<Integer> sieves = new ArrayList<>();
        Integer damp = null;
        Integer seed = null;
        final Map<String, Tree> laws = new HashMap<>();
        int knots = 0;
        int lines = 0;

        final List<Token> tokens = new ArrayList<>();
        int at = 0;
        int length;

        Text(String text) {
            length = text.length();
            int k = 0;
            while (k < length) {
                char c = text.charAt(k);
                int from = k;
                if (c == 10 || c == 32) {
                    k++;
                    continue;
                }
                if (c >= 'a' && c <= 'z') {
                    while (k < length && text.charAt(k) >= 'a' && text.charAt(k) <= 'z') {
                        k++;
                    }
                } else if (c >= '0' && c <= '9') {
                    while (k < length && text.charAt(k) >= '0' && text.charAt(k) <= '9') {
                        k++;
                    }
                } else {
                    k++;
                    String two = text.substring(from, Math.min(length, k + 1));
                    if (two.equals("<=") || two.equals("<>") || two.equals(">=")) {
                        k++;
                    }
                }
                tokens.add(new Token(text.substring(from, k), from));
            }
        }

        String peek() {
            return at < tokens.size() ? tokens.get(at).said : "";
        }

        int place() {
            return at < tokens.size() ? tokens.get(at).place : length;
        }

        Fault fault(int number) {
            return new Fault(number, place());
        }

        void take(String said) {
            if (!peek().equals(said)) {
                throw fault(1);
            }
            at++;
        }

        String w() {
            String said = peek();
            if (!said.matches("[a-z]{1,6}") || LANGUAGE.contains(said)) {
                throw fault(1);
            }
            return said;
        }

        int n(int least, int most) {
            String said = peek();
            if (!said.matches("[0-9]+")) {
                throw fault(1);
            }
            java.math.BigInteger v = new java.math.BigInteger(said);
            if (v.bitLength() > 30 || v.intValue() < least || v.intValue() > most) {
                throw fault(2);
            }
            at++;
            return v.intValue();
        }

        String fresh(List<String> names) {
            String name = w();
            if (names.contains(name)) {
                throw fault(3);
            }
            at++;
            return name;
        }

        int told(List<String> names) {
            String name = w();
            if (!names.contains(name)) {
                throw fault(4);
            }
            at++;
            return names.indexOf(name);
        }

        void room(int size, int most) {
            if (size >= most) {
                throw fault(2);
            }
            at++;
        }

        Text read() {
            while (at < tokens.size()) {
                line();
                take(";");
                lines++;
            }
            return this;
        }

        void line() {
            switch (peek()) {
                case "man":
                    room(men.size(), 5);
                    men.add(fresh(men));
                    break;
                case "glass": {
                    room(glasses.size(), 8);
                    String name = fresh(glassNames);
                    glasses.add(new int[] {told(men), n(0, 99), n(0, 99), n(1, 9), n(1, 9)});
                    glassNames.add(name);
                    break;
                }
                case "turn":
                    room(turns.size(), 10);
                    turns.add(new int[] {told(glassNames), n(0, 99)});
                    break;
                case "pay": {
                    room(pays.size(), 10);
                    int from = told(glassNames);
                    int where = place();
                    int to = told(glassNames);
                    if (from == to) {
                        throw new Fault(5, where);
                    }
                    pays.add(new int[] {from, to, n(0, 99), n(1, 99)});
                    break;
                }
                case "sieve":
                    room(sieves.size(), 6);
                    sieves.add(n(1, 9));
                    break;
                case "damp":
                    if (damp != null) {
                        throw fault(3);
                    }
                    at++;
                    damp = n(0, 100);
                    break;
                case "seed":
                    if (seed != null) {
                        throw fault(3);
                    }
                    at++;
                    seed = n(0, 99999);
                    break;
                case "law": {
                    at++;
                    String law = peek();
                    if (!law.equals("flow") && !law.equals("tax") && !law.equals("wind")) {
                        throw fault(1);
                    }
                    if (laws.containsKey(law)) {
                        throw fault(3);
                    }
                    at++;
                    laws.put(law, e(0));
                    break;
                }
                default:
                    throw fault(1);
            }
        }

        void knot() {
            if (knots >= 64) {
                throw fault(2);
            }
            knots++;
            at++;
        }

        Tree e(int open) {
            Tree left = a(open);
            while (peek().equals("or")) {
                knot();
                left = two("or", left, a(open));
            }
            return left;
        }

        Tree a(int open) {
            Tree left = b(open);
            while (peek().equals("and")) {
                knot();
                left = two("and", left, b(open));
            }
            return left;
        }

        Tree b(int open) {
            if (peek().equals("not")) {
                knot();
                Tree of = b(open);
                return names -> of.value(names) == 0 ? 1 : 0;
            }
            Tree left = s(open);
            String sign = peek();
            if (Arrays.asList("<", "<=", "=", "<>", ">=", ">").contains(sign)) {
                knot();
                left = two(sign, left, s(open));
            }
            return left;
        }

        Tree s(int open) {
            Tree left = t(open);
            while (peek().equals("+") || peek().equals("-")) {
                String sign = peek();
                knot();
                left = two(sign, left, t(open));
            }
            return left;
        }

        Tree t(int open) {
            Tree left = p(open);
            while (peek().equals("*") || peek().equals("/")) {
                String sign = peek();
                knot();
                left = two(sign, left, p(open));
            }
            return left;
        }

        Tree p(int open) {
            String said = peek();
            if (said.matches("[0-9]+")) {
                int v = n(0, 9999);
                at--;
                knot();
                return names -> v;
            }
            if (NAMES.contains(said)) {
                knot();
                return names -> names[NAMES.indexOf(said)];
            }
            if (said.equals("(")) {
                if (open >= 8) {
                    throw fault(2);
                }
                at++;
                Tree of = e(open + 1);
                take(")");
                return of;
            }
            throw fault(1);
        }

        static Tree two(String sign, Tree left, Tree right) {
            return names -> {
                long x = left.value(names);
                long y = right.value(names);
                java.math.BigInteger bx = java.math.BigInteger.valueOf(x);
                java.math.BigInteger by = java.math.BigInteger.valueOf(y);
                switch (sign) {
                    case "+":
                        return within(bx.add(by));
                    case "-":
                        return within(bx.subtract(by));
                    case "*":
                        return within(bx.multiply(by));
                    case "/":
                        if (y == 0) {
                            throw new Failed();
                        }
                        return within(bx.divide(by));
                    case "<":
                        return x < y ? 1 : 0;
                    case "<=":
                        return x <= y ? 1 : 0;
                    case "=":
                        return x == y ? 1 : 0;
                    case "<>":
                        return x != y ? 1 : 0;
                    case ">=":
                        return x >= y ? 1 : 0;
                    case ">":
                        return x > y ? 1 : 0;
                    case "and":
                        return (x != 0) & (y != 0) ? 1 : 0;
                    default:
                        return (x != 0) | (y != 0) ? 1 : 0;
                }
            };
        }
    }

    /** How it stands; copied whole wherever another one is wanted. */
    static final class World implements Cloneable {
        int minute = 0;
        long last;
        int taxed = 0;
        int[] above;
        int[] below;
        int[] neck;
        boolean[] wet;
        int[] emptied;
        int[] paid;
        int[] done;

        World(Text t) {
            int n = t.glasses.size();
            last = t.seed == null ? 0 : t.seed;
            above = new int[n];
            below = new int[n];
            neck = new int[n];
            wet = new boolean[n];
            emptied = new int[n];
            paid = new int[n];
            done = new int[t.pays.size()];
            for (int g = 0; g < n; g++) {
                above[g] = t.glasses.get(g)[1];
                below[g] = t.glasses.get(g)[2];
                neck[g] = t.glasses.get(g)[3];
            }
        }

        World copy() {
            try {
                World w = (World) clone();
                w.above = above.clone();
                w.below = below.clone();
                w.neck = neck.clone();
                w.wet = wet.clone();
                w.emptied = emptied.clone();
                w.paid = paid.clone();
                w.done = done.clone();
                return w;
            } catch (CloneNotSupportedException e) {
                throw new AssertionError(e);
            }
        }

        int grains() {
            return Arrays.stream(above).sum() + Arrays.stream(below).sum();
        }

        int shorts() {
            return (int) Arrays.stream(done).filter(d -> d == 2).count();
        }
    }

    private String tape = "";
    private Text text = new Text("").read();
    private World now = new World(text);
    private World image = null;
    private final List<World> past = new ArrayList<>();
    private final List<Object[]> seen = new ArrayList<>();
    private int knownBy = -1;
    private int fault = 0;
    private int place = -1;

    int damp() {
        return text.damp == null ? 0 : text.damp;
    }

    long e(String law, World w, int g) {
        Tree tree = text.laws.get(law);
        if (tree == null) {
            return ERROR;
        }
        try {
            return tree.value(new long[] {w.above[g], w.below[g], w.neck[g], text.glasses.get(g)[4], w.wet[g] ? 1 : 0,
                w.paid[g], w.minute});
        } catch (Failed f) {
            return ERROR;
        }
    }

    static int within99(long v, int otherwise) {
        return v == ERROR ? otherwise : (int) Math.max(0, Math.min(99, v));
    }

    int flow(World w, int g) {
        return within99(e("flow", w, g), w.wet[g] ? w.neck[g] / 2 : w.neck[g]);
    }

    static int draw(World w) {
        w.last = (w.last * 1103515245L + 12345L) % 2147483648L;
        return (int) (w.last / 65536);
    }

    void damp(World w, boolean numbers) {
        for (int g = 0; g < w.wet.length; g++) {
            if (w.wet[g]) {
                continue;
            }
            if (!numbers) {
                w.wet[g] = damp() >= 50;
            } else if (damp() == 100) {
                w.wet[g] = true;
            } else if (damp() != 0) {
                w.wet[g] = draw(w) % 100 < damp();
            }
        }
    }

    /** without: -1 nothing, else as TRIED; i: who pays nothing. */
    void minute(World w, boolean numbers, int without, int i) {
        for (int[] turn : text.turns) {
            if (turn[1] == w.minute && without != 4) {
                int a = w.above[turn[0]];
                w.above[turn[0]] = w.below[turn[0]];
                w.below[turn[0]] = a;
            }
        }
        for (int p = 0; p < text.pays.size(); p++) {
            int[] pay = text.pays.get(p);
            if (pay[2] != w.minute || without == 2 && pay[0] == i) {
                continue;
            }
            int grains = Math.min(pay[3], w.below[pay[0]]);
            w.done[p] = grains == pay[3] ? 1 : 2;
            w.paid[pay[0]] += grains;
            int tax = without == 3 ? 0 : Math.min(grains, within99(e("tax", w, pay[0]), 0));
            w.below[pay[0]] -= grains;
            w.taxed += tax;
            w.above[pay[1]] = Math.min(999, w.above[pay[1]] + grains - tax);
        }
        if (without != 0) {
            damp(w, numbers);
        }
        for (int g = 0; g < w.above.length; g++) {
            int had = w.above[g];
            int runs = Math.min(had, flow(w, g));
            w.above[g] -= runs;
            w.below[g] = Math.min(999, w.below[g] + runs);
            if (had > 0 && w.above[g] == 0) {
                w.emptied[g]++;
            }
        }
        if ((w.minute + 1) % 10 == 0 && without != 1) {
            for (int g = 0; g < w.above.length; g++) {
                w.below[g] = Math.max(0, w.below[g] - within99(e("wind", w, g), 0));
            }
        }
        w.minute++;
    }

    World then(int n) {
        return then(n, -1, 0);
    }

    World then(int n, int without, int i) {
        World w = now.copy();
        for (int k = 0; k < n; k++) {
            minute(w, false, without, i);
        }
        return w;
    }

    boolean isGlass(int g) {
        return g >= 0 && g < text.glasses.size();
    }

    boolean isMan(int m) {
        return m >= 0 && m < text.men.size();
    }

    int wealth(World w, int man) {
        int sum = 0;
        for (int g = 0; g < text.glasses.size(); g++) {
            sum += text.glasses.get(g)[0] == man ? w.above[g] + w.below[g] : 0;
        }
        return sum;
    }

    int feed(int a, int b, int c, int d, int e) {
        if (tape.length() + 20 > 700) {
            return -1;
        }
        StringBuilder more = new StringBuilder(tape);
        for (int v : new int[] {a, b, c, d, e}) {
            more.append((char) (v >>> 24)).append((char) (v >>> 16 & 255)).append((char) (v >>> 8 & 255)).append((char) (v & 255));
        }
        tape = more.toString();
        return tape.length();
    }

    int text(int n) {
        if (n < 0 || n > tape.length()) {
            return -2;
        }
        String told = tape.substring(0, n);
        tape = "";
        try {
            text = new Text(told).read();
        } catch (Fault f) {
            fault = f.number;
            place = f.place;
            return -1;
        }
        fault = 0;
        place = -1;
        now = new World(text);
        image = null;
        past.clear();
        seen.clear();
        knownBy = -1;
        return text.lines;
    }

    int fault(int what) {
        return what == 0 ? fault : what == 1 ? place : -1;
    }

    int named(int what, int letters) {
        List<String> names = what == 0 ? text.men : what == 1 ? text.glassNames : new ArrayList<>();
        for (int k = 0; k < names.size(); k++) {
            if (Check.letters(names.get(k)) == letters) {
                return k;
            }
        }
        return -1;
    }

    int glass(int g, int what) {
        if (!isGlass(g)) {
            throw new IndexOutOfBoundsException();
        }
        int[] told = text.glasses.get(g);
        int[] all = {told[0], now.above[g], now.below[g], told[3], told[4], now.wet[g] ? 1 : 0, now.emptied[g], now.paid[g]};
        if (what < 0 || what > 7) {
            throw new java.util.NoSuchElementException();
        }
        return all[what];
    }

    int man(int man, int what) {
        if (!isMan(man) || what < 0 || what > 2) {
            return -1;
        }
        int bits = 0;
        for (int g = 0; g < text.glasses.size(); g++) {
            bits += text.glasses.get(g)[0] == man && (what == 1 || now.wet[g]) ? 1 << g : 0;
        }
        return what == 0 ? wealth(now, man) : bits;
    }

    int payment(int p, int what) {
        if (p < 0 || p >= text.pays.size() || what < 0 || what > 4) {
            return -1;
        }
        return what == 4 ? now.done[p] : text.pays.get(p)[what];
    }

    long law(int what, int g) {
        return what < 0 || what > 2 || !isGlass(g) ? ERROR : e(new String[] {"flow", "tax", "wind"}[what], now, g);
    }

    void remember() {
        past.add(now.copy());
        if (past.size() > 20) {
            past.remove(0);
        }
    }

    int flip(int g) {
        if (!isGlass(g)) {
            return -1;
        }
        remember();
        int a = now.above[g];
        now.above[g] = now.below[g];
        now.below[g] = a;
        return now.above[g];
    }

    int pour(int one, int other, int grains) {
        if (!isGlass(one) || !isGlass(other) || one == other || grains < 1 || grains > 999) {
            return -1;
        }
        if (grains > now.below[one]) {
            return -2;
        }
        if (now.above[other] + grains > 999) {
            return -1;
        }
        remember();
        now.below[one] -= grains;
        now.above[other] += grains;
        now.paid[one] += grains;
        return now.below[one];
    }

    boolean dry(int g) {
        if (!isGlass(g) || !now.wet[g]) {
            return false;
        }
        remember();
        now.wet[g] = false;
        return true;
    }

    int go(int n) {
        if (n < 0 || n > 200 || now.minute + n > 9000) {
            return -1;
        }
        for (int k = 0; k < n; k++) {
            past.clear();
            minute(now, true, -1, 0);
        }
        return now.minute;
    }

    int ahead(int n, int what, int i) {
        if (n < 0 || n > 200) {
            return -1;
        }
        World w = then(n);
        switch (what) {
            case 0:
                return isGlass(i) ? w.above[i] : -1;
            case 1:
                return isGlass(i) ? w.below[i] : -1;
            case 2:
                return Arrays.stream(w.emptied).sum() - Arrays.stream(now.emptied).sum();
            case 3:
                return isMan(i) ? wealth(w, i) : -1;
            case 4:
                return w.shorts() - now.shorts();
            default:
                return -1;
        }
    }

    int empty(int g) {
        if (!isGlass(g)) {
            return -1;
        }
        World w = now.copy();
        for (int k = 0; k <= 199; k++) {
            if (w.above[g] == 0) {
                return k;
            }
            minute(w, false, -1, 0);
        }
        return -2;
    }

    int open(int man, int sum) {
        if (!isMan(man) || sum < 0 || sum > 9999) {
            return -1;
        }
        for (int size = 0; size <= 8; size++) {
            for (int bits = 0; bits < 256; bits++) {
                int has = 0;
                boolean own = Integer.bitCount(bits) == size;
                for (int g = 0; g < 8; g++) {
                    if ((bits & 1 << g) != 0) {
                        own &= isGlass(g) && text.glasses.get(g)[0] == man;
                        has += own ? now.below[g] : 0;
                    }
                }
                if (own && has == sum) {
                    return bits;
                }
            }
        }
        return -2;
    }

    int vigil(int g, int n) {
        if (!isGlass(g) || n < 1 || n > 30) {
            return -1;
        }
        int least = vigil(now.copy(), g, n, new HashMap<>());
        return least >= 1000 ? -2 : least;
    }

    int vigil(World w, int g, int n, Map<String, Integer> done) {
        if (n == 0) {
            return 0;
        }
        String key = w.above[g] + " " + n;
        if (done.containsKey(key)) {
            return done.get(key);
        }
        int least = 1000;
        for (int turn = 0; turn <= 1; turn++) {
            World next = w.copy();
            if (turn == 1) {
                next.above[g] = w.below[g];
                next.below[g] = w.above[g];
            }
            int runs = Math.min(next.above[g], flow(next, g));
            next.above[g] -= runs;
            next.below[g] += runs;
            next.minute++;
            if (next.above[g] > 0) {
                least = Math.min(least, turn + vigil(next, g, n - 1, done));
            }
        }
        done.put(key, least);
        return least;
    }

    int apart() {
        int best = -2;
        for (int bits = (1 << text.sieves.size()) - 1; bits >= 0; bits--) {
            Map<String, Integer> like = new HashMap<>();
            boolean fine = true;
            for (int[] glass : text.glasses) {
                StringBuilder through = new StringBuilder();
                for (int s = 0; s < text.sieves.size(); s++) {
                    through.append((bits & 1 << s) != 0 && glass[4] <= text.sieves.get(s) ? 1 : 0);
                }
                Integer before = like.put(through.toString(), glass[4]);
                fine &= before == null || before == glass[4];
            }
            if (fine && (best == -2 || Integer.bitCount(bits) <= Integer.bitCount(best))) {
                best = bits;
            }
        }
        return best;
    }

    /** The least cut is as large as the most that can be carried. */
    int carry(int one, int other) {
        if (!isGlass(one) || !isGlass(other) || one == other) {
            return -1;
        }
        int least = Integer.MAX_VALUE;
        for (int side = 0; side < 256; side++) {
            if ((side & 1 << one) == 0 || (side & 1 << other) != 0) {
                continue;
            }
            int cut = 0;
            for (int[] pay : text.pays) {
                cut += (side & 1 << pay[0]) != 0 && (side & 1 << pay[1]) == 0 ? pay[3] : 0;
            }
            least = Math.min(least, cut);
        }
        return least;
    }

    int comes(int g) {
        if (!isGlass(g)) {
            return -1;
        }
        Set<Integer> to = new HashSet<>();
        visit(g, to);
        int bits = 0;
        for (int t : to) {
            bits |= 1 << t;
        }
        return bits;
    }

    void visit(int g, Set<Integer> to) {
        if (to.add(g)) {
            for (int[] pay : text.pays) {
                if (pay[0] == g) {
                    visit(pay[1], to);
                }
            }
        }
    }

    int even(int one, int other) {
        if (!isMan(one) || !isMan(other) || one == other) {
            return Integer.MIN_VALUE;
        }
        int more = wealth(now, one) - wealth(now, other);
        return more < 0 ? -(-more / 2) : more / 2;
    }

    long staysDry(int g, int n, int what) {
        if (!isGlass(g) || n < 0 || n > 6 || what < 0 || what > 1) {
            return -1;
        }
        java.math.BigInteger top = now.wet[g] ? java.math.BigInteger.ZERO : java.math.BigInteger.valueOf(100 - damp()).pow(n);
        java.math.BigInteger all = java.math.BigInteger.valueOf(100).pow(n);
        return (what == 0 ? top : all).divide(top.gcd(all)).longValueExact();
    }

    int richest(World w) {
        int best = -1;
        for (int m = text.men.size() - 1; m >= 0; m--) {
            best = best < 0 || wealth(w, m) >= wealth(w, best) ? m : best;
        }
        return best;
    }

    int richest() {
        return richest(now);
    }

    /** What two who turn at these minutes have, minute by minute. */
    int[] shares(int g, int first, int second) {
        int[] have = new int[2];
        if (first == second) {
            return have;
        }
        int above = now.above[g];
        int below = now.below[g];
        int whose = -1;
        for (int m = 0; m <= 3; m++) {
            if (m == first || m == second) {
                int a = above;
                above = below;
                below = a;
                whose = m == first ? 0 : 1;
            }
            if (whose >= 0) {
                int runs = Math.min(above, text.glasses.get(g)[3]);
                above -= runs;
                below += runs;
                have[whose] += runs;
            }
        }
        return have;
    }

    List<Integer> restList(int g) {
        List<Integer> rests = new ArrayList<>();
        for (int f = 0; f < 4; f++) {
            for (int s = 0; s < 4; s++) {
                boolean rest = true;
                for (int o = 0; o < 4; o++) {
                    rest &= shares(g, o, s)[0] <= shares(g, f, s)[0] && shares(g, f, o)[1] <= shares(g, f, s)[1];
                }
                if (rest) {
                    rests.add(10 * f + s);
                }
            }
        }
        return rests;
    }

    int rests(int g) {
        return isGlass(g) ? restList(g).size() : -1;
    }

    int rest(int g, int k) {
        if (!isGlass(g) || k < 0) {
            return -1;
        }
        return k < restList(g).size() ? restList(g).get(k) : -2;
    }

    int let(int man, int sum, int what) {
        if (!isMan(man) || sum < 1 || sum > 999 || what < 0 || what > 1) {
            return -1;
        }
        for (int minutes = 1; minutes <= 999; minutes++) {
            for (int g = 0; g < text.glasses.size(); g++) {
                int each = now.wet[g] ? text.glasses.get(g)[3] / 2 : text.glasses.get(g)[3];
                if (text.glasses.get(g)[0] == man && Math.min(now.above[g], minutes * each) == sum) {
                    return what == 0 ? g : minutes;
                }
            }
        }
        return -2;
    }

    int nextShort(int what) {
        if (what < 0 || what > 1) {
            return -1;
        }
        for (int k = 1; k <= 200; k++) {
            World w = then(k);
            for (int p = 0; p < w.done.length; p++) {
                if (w.done[p] == 2 && now.done[p] != 2) {
                    return what == 0 ? k : p;
                }
            }
        }
        return -2;
    }

    int heaviest() {
        int best = -1;
        for (int g = text.glasses.size() - 1; g >= 0; g--) {
            best = best < 0 || now.above[g] + now.below[g] >= now.above[best] + now.below[best] ? g : best;
        }
        return best;
    }

    int wets() {
        int bits = 0;
        for (int g = 0; g < now.wet.length; g++) {
            bits |= now.wet[g] ? 1 << g : 0;
        }
        return bits;
    }

    int richestIn(int n) {
        return n < 0 || n > 200 ? -1 : richest(then(n));
    }

    int sift(int mesh) {
        if (mesh < 1 || mesh > 9) {
            return -1;
        }
        int sum = 0;
        for (int g = 0; g < now.wet.length; g++) {
            sum += text.glasses.get(g)[4] <= mesh ? now.above[g] + now.below[g] : 0;
        }
        return sum;
    }

    int rank(int man) {
        if (!isMan(man)) {
            return -1;
        }
        int before = 0;
        for (int m = 0; m < text.men.size(); m++) {
            before += wealth(now, m) > wealth(now, man) || m < man && wealth(now, m) == wealth(now, man) ? 1 : 0;
        }
        return before;
    }

    int toCome() {
        int bits = 0;
        for (int p = 0; p < now.done.length; p++) {
            bits |= now.done[p] == 0 ? 1 << p : 0;
        }
        return bits;
    }

    int see(int minutes, int g, int below, boolean atLeast) {
        if (minutes < 1 || minutes > 99 || !isGlass(g) || below < 0 || below > 999 || seen.size() == 24) {
            return -1;
        }
        seen.add(new Object[] {minutes, g, below, atLeast});
        return seen.size() - 1;
    }

    int strike(int one) {
        if (one < 0 || one >= seen.size() || seen.size() == 24) {
            return -1;
        }
        seen.add(new Object[] {one});
        return seen.size() - 1;
    }

    boolean known(int n) {
        if (n < -1 || n > seen.size()) {
            return false;
        }
        knownBy = n;
        return true;
    }

    boolean counts(int k, int n) {
        for (int later = k + 1; later < n; later++) {
            if (seen.get(later).length == 1 && (Integer) seen.get(later)[0] == k && counts(later, n)) {
                return false;
            }
        }
        return true;
    }

    int necks(int g) {
        if (!isGlass(g)) {
            return -1;
        }
        int n = knownBy == -1 ? seen.size() : knownBy;
        int bits = 0;
        for (int neck = 0; neck <= 9; neck++) {
            boolean fine = true;
            for (int k = 0; k < n && fine; k++) {
                if (seen.get(k).length == 1 || !counts(k, n)) {
                    continue;
                }
                World w = new World(text);
                w.neck[g] = neck;
                for (int m = 0; m < (Integer) seen.get(k)[0]; m++) {
                    minute(w, false, -1, 0);
                }
                boolean more = w.below[(Integer) seen.get(k)[1]] >= (Integer) seen.get(k)[2];
                fine = more == (Boolean) seen.get(k)[3];
            }
            bits |= fine ? 1 << neck : 0;
        }
        return bits;
    }

    int chance(int seed, int n, int g) {
        if (seed < 0 || n < 1 || n > 99 || !isGlass(g)) {
            return -1;
        }
        long last = seed;
        int times = 0;
        for (int time = 0; time < 10; time++) {
            World w = now.copy();
            w.last = last;
            for (int k = 0; k < n; k++) {
                minute(w, true, -1, 0);
            }
            last = w.last;
            times += w.wet[g] ? 1 : 0;
        }
        return times;
    }

    int tried(int what, int i, int n) {
        boolean such = what == 2 ? isGlass(i) : i == 0;
        return what < 0 || what > 4 || n < 0 || n > 200 || !such ? -1 : then(n, what, i).grains();
    }

    int undo() {
        if (past.isEmpty()) {
            return -1;
        }
        now = past.remove(past.size() - 1);
        return past.size();
    }

    int keep() {
        image = now.copy();
        return now.minute;
    }

    int back() {
        if (image == null) {
            return -1;
        }
        now = image.copy();
        past.clear();
        return now.minute;
    }

    int count(int what) {
        switch (what) {
            case 0:
                return text.men.size();
            case 1:
                return text.glasses.size();
            case 2:
                return text.pays.size();
            case 3:
                return text.sieves.size();
            case 4:
                return text.knots;
            case 5:
                return now.minute;
            case 6:
                return now.grains();
            case 7:
                return Arrays.stream(now.paid).sum();
            case 8:
                return now.taxed;
            case 9:
                return now.shorts();
            case 10:
                return Arrays.stream(now.emptied).sum();
            case 11:
                return seen.size();
            case 12:
                return knownBy == -1 ? seen.size() : knownBy;
            case 13:
                return past.size();
            default:
                return -1;
        }
    }
}
