import java.util.Arrays;
import java.util.NoSuchElementException;

/** Sand as money in glasses, told as a TEXT; the promises stand in the document. */
public final class SandHours {
    public static final int NONE = -1;

    /** What many calls answer where what they ask for is by none, or not by then. */
    private static final int NOT_SO = -2;

    private static final int TAPE_MOST = 700;
    private static final int FEED_BYTES = 20;
    private static final int MEN_MOST = 5;
    private static final int GLASSES_MOST = 8;
    private static final int TURNS_MOST = 10;
    private static final int PAYMENTS_MOST = 10;
    private static final int SIEVES_MOST = 6;
    private static final int KNOTS_MOST = 64;
    private static final int OPEN_MOST = 8;
    private static final int SEEN_MOST = 24;
    private static final int UNDO_MOST = 20;
    private static final int GRAINS_MOST = 999;
    private static final int SHARE_MOST = 99;
    private static final int MINUTES_MOST = 200;
    private static final int LAST_MINUTE = 9000;
    private static final int SURE = 100;
    private static final int LETTERS = 6;

    // columns of the rows of PEOPLE and GLASSES
    private static final int NAMED = 0;
    private static final int WHOSE = 1;
    private static final int TOLD_ABOVE = 2;
    private static final int TOLD_BELOW = 3;
    private static final int TOLD_NECK = 4;
    private static final int TOLD_COARSE = 5;
    private static final int GLASS_WIDTH = 6;
    // columns of the rows of TURNS
    private static final int TURNED = 0;
    private static final int TURN_MINUTE = 1;
    private static final int TURN_WIDTH = 2;
    // columns of the rows of PAYMENTS
    private static final int FROM = 0;
    private static final int TO = 1;
    private static final int PAY_MINUTE = 2;
    private static final int PAY_GRAINS = 3;
    private static final int PAY_WIDTH = 4;

    // what a PAYMENT has come to
    private static final int NOT_YET = 0;
    private static final int ALL_PAID = 1;
    private static final int SHORT = 2;

    // the laws
    private static final int FLOW_LAW = 0;
    private static final int TAX_LAW = 1;
    private static final int WIND_LAW = 2;
    private static final int LAWS = 3;
    private static final long LARGEST = 1_000_000_000_000L;
    private static final long ERROR = Long.MIN_VALUE;

    // what is left out when it is TRIED
    private static final int NO_DAMP = 0;
    private static final int NO_WIND = 1;
    private static final int NO_PAYER = 2;
    private static final int NO_TAX = 3;
    private static final int NO_TURNS = 4;

    // what can be undone
    private static final int FLIPPED = 0;
    private static final int POURED = 1;
    private static final int DRIED = 2;

    // FAULTS
    private static final int NO_TOKEN = 1;
    private static final int TOO_MUCH = 2;
    private static final int TOLD_ALREADY = 3;
    private static final int NOT_TOLD = 4;
    private static final int TO_ITSELF = 5;

    // kinds of TOKENS; words of the language are numbered as they stand in WORDS
    private static final int END = 0;
    private static final int BAD = 1;
    private static final int OWN_WORD = 2;
    private static final int NUMBER = 3;
    private static final int SEMICOLON = 4;
    private static final int OPEN = 5;
    private static final int CLOSE = 6;
    private static final int FIRST_WORD = 10;
    private static final int MAN = 10;
    private static final int GLASS = 11;
    private static final int TURN = 12;
    private static final int PAY = 13;
    private static final int SIEVE = 14;
    private static final int DAMP = 15;
    private static final int SEED = 16;
    private static final int LAW = 17;
    private static final int FLOW = 18;
    private static final int ABOVE = 21;
    private static final int BELOW = 22;
    private static final int NECK = 23;
    private static final int COARSE = 24;
    private static final int WET = 25;
    private static final int PAID = 26;
    private static final int MINUTE = 27;
    private static final int NOT = 28;
    private static final int AND = 29;
    private static final int OR = 30;
    private static final int WORD_COUNT = 21;
    private static final int PLUS = 31;
    private static final int MINUS = 32;
    private static final int TIMES = 33;
    private static final int OVER = 34;
    private static final int LESS = 35;
    private static final int AT_MOST = 36;
    private static final int EQUAL = 37;
    private static final int UNLIKE = 38;
    private static final int AT_LEAST = 39;
    private static final int MORE = 40;
    private static final int NAME_COUNT = 7;

    /** The words of the language, each in six places. */
    private static final String WORDS =
            "man   glass turn  pay   sieve damp  seed  law   flow  tax   wind  above below neck  coarsewet   paid  minutenot   and   or    ";

    private final byte[] tape = new byte[TAPE_MOST];
    private int tapeLength = 0;
    private int lastFault = 0;
    private int lastPlace = NONE;
    private final Reader reader = new Reader();
    private Told told = new Told();
    private Told draft = new Told();
    private final State now = new State();
    private final State image = new State();
    private boolean hasImage = false;
    private final State then = new State();
    private final Course course = new Course();
    private final Puzzles puzzles = new Puzzles();
    private final Undoing undoing = new Undoing();
    private final Seen seen = new Seen();

    public SandHours() {
    }

    public int feed(int a, int b, int c, int d, int e) {
        if (tapeLength + FEED_BYTES > TAPE_MOST) {
            return NONE;
        }
        putBytes(a);
        putBytes(b);
        putBytes(c);
        putBytes(d);
        putBytes(e);
        return tapeLength;
    }

    private void putBytes(int four) {
        for (int shift = 24; shift >= 0 && tapeLength < TAPE_MOST; shift -= 8) {
            tape[tapeLength] = (byte) (four >> shift);
            tapeLength++;
        }
    }

    public int text(int n) {
        if (n < 0 || n > tapeLength) {
            return NOT_SO;
        }
        tapeLength = 0;
        int lines = reader.readText(draft, tape, n);
        lastFault = reader.tokens.faultKind;
        lastPlace = reader.tokens.faultPlace;
        if (lines == NONE) {
            return NONE;
        }
        Told before = told;
        told = draft;
        draft = before;
        now.begin(told);
        seen.clear();
        undoing.clear();
        hasImage = false;
        return lines;
    }

    public int fault(int what) {
        if (what == 0) {
            return lastFault;
        }
        return what == 1 ? lastPlace : NONE;
    }

    public int named(int what, int letters) {
        if (what == 0) {
            return told.men.find(letters);
        }
        return what == 1 ? told.glasses.find(letters) : NONE;
    }

    private boolean noGlass(int glass) {
        return glass < 0 || glass >= GLASSES_MOST || glass >= told.glasses.size;
    }

    private boolean noMan(int man) {
        return man < 0 || man >= told.men.size;
    }

    private static boolean outside(int number, int least, int most) {
        return number < least || number > most;
    }

    public int glass(int glass, int what) throws IndexOutOfBoundsException, NoSuchElementException {
        if (glass < 0 || glass >= GLASSES_MOST || glass >= told.glasses.size) {
            throw new IndexOutOfBoundsException("no such glass");
        }
        switch (what) {
            case 0:
                return told.glasses.at(glass, WHOSE);
            case 1:
                return now.above[glass];
            case 2:
                return now.below[glass];
            case 3:
                return told.glasses.at(glass, TOLD_NECK);
            case 4:
                return told.glasses.at(glass, TOLD_COARSE);
            case 5:
                return now.wetBit(glass);
            case 6:
                return now.emptied[glass];
            case 7:
                return now.paid[glass];
            default:
                throw new NoSuchElementException("no such what");
        }
    }

    public int man(int man, int what) {
        if (noMan(man)) {
            return NONE;
        }
        switch (what) {
            case 0:
                return now.wealth(told, man);
            case 1:
                return told.glassesOf(man);
            case 2:
                return told.glassesOf(man) & now.wet;
            default:
                return NONE;
        }
    }

    public int payment(int payment, int what) {
        if (payment < 0 || payment >= PAYMENTS_MOST || payment >= told.payments.size) {
            return NONE;
        }
        switch (what) {
            case 0:
                return told.payments.at(payment, FROM);
            case 1:
                return told.payments.at(payment, TO);
            case 2:
                return told.payments.at(payment, PAY_MINUTE);
            case 3:
                return told.payments.at(payment, PAY_GRAINS);
            case 4:
                return now.done[payment];
            default:
                return NONE;
        }
    }

    public long law(int what, int glass) {
        if (outside(what, 0, LAWS - 1) || noGlass(glass)) {
            return ERROR;
        }
        course.asItGoes(told);
        course.look(now, glass);
        return told.laws.value(what);
    }

    public int flip(int glass) {
        if (noGlass(glass)) {
            return NONE;
        }
        now.swap(glass);
        undoing.add(FLIPPED, glass, glass, 0);
        return now.above[glass];
    }

    public int pour(int one, int other, int grains) {
        if (noGlass(one) || noGlass(other) || one == other || outside(grains, 1, GRAINS_MOST)) {
            return NONE;
        }
        if (now.below[one] < grains) {
            return NOT_SO;
        }
        if (now.above[other] + grains > GRAINS_MOST) {
            return NONE;
        }
        now.carryOver(one, other, grains);
        undoing.add(POURED, one, other, grains);
        return now.below[one];
    }

    public boolean dry(int glass) {
        if (noGlass(glass) || now.wetBit(glass) == 0) {
            return false;
        }
        now.wet &= ~(1 << glass);
        undoing.add(DRIED, glass, glass, 0);
        return true;
    }

    public int go(int n) {
        if (outside(n, 0, MINUTES_MOST) || now.minute + n > LAST_MINUTE) {
            return NONE;
        }
        if (n > 0) {
            undoing.clear();
        }
        course.byNumbers(told);
        course.pass(now, n);
        return now.minute;
    }

    /** From now on the state then is one to try on, as it goes. */
    private void beginAhead() {
        then.copy(now);
        course.asItGoes(told);
    }

    public int ahead(int n, int what, int i) {
        boolean ofGlass = what == 0 || what == 1;
        if (outside(n, 0, MINUTES_MOST) || outside(what, 0, 4) || ofGlass && noGlass(i) || what == 3 && noMan(i)) {
            return NONE;
        }
        beginAhead();
        course.pass(then, n);
        switch (what) {
            case 0:
                return then.above[i];
            case 1:
                return then.below[i];
            case 2:
                return then.allEmptied() - now.allEmptied();
            case 3:
                return then.wealth(told, i);
            default:
                return then.shorts() - now.shorts();
        }
    }

    public int empty(int glass) {
        if (noGlass(glass)) {
            return NONE;
        }
        beginAhead();
        for (int minutes = 0; minutes < MINUTES_MOST; minutes++) {
            if (then.above[glass] == 0) {
                return minutes;
            }
            course.pass(then, 1);
        }
        return NOT_SO;
    }

    public int open(int man, int sum) {
        if (noMan(man) || outside(sum, 0, 9999)) {
            return NONE;
        }
        return puzzles.opened(now, told.glassesOf(man), sum);
    }

    public int vigil(int glass, int n) {
        if (noGlass(glass) || outside(n, 1, 30)) {
            return NONE;
        }
        beginAhead();
        return puzzles.fewestTurns(course, then, glass, n);
    }

    public int apart() {
        return puzzles.sievesApart(told);
    }

    public int carry(int one, int other) {
        if (noGlass(one) || noGlass(other) || one == other) {
            return NONE;
        }
        return puzzles.mostCarried(told, one, other);
    }

    public int comes(int glass) {
        if (noGlass(glass)) {
            return NONE;
        }
        return puzzles.reached(told, glass);
    }

    public int even(int one, int other) {
        if (noMan(one) || noMan(other) || one == other) {
            return Integer.MIN_VALUE;
        }
        return (now.wealth(told, one) - now.wealth(told, other)) / 2;
    }

    public long staysDry(int glass, int n, int what) {
        if (noGlass(glass) || outside(n, 0, 6) || outside(what, 0, 1)) {
            return NONE;
        }
        long dryOnes = 1;
        long all = 1;
        for (int k = 0; k < n; k++) {
            dryOnes *= SURE - told.damp;
            all *= SURE;
        }
        if (now.wetBit(glass) == 1) {
            dryOnes = 0;
        }
        long common = Puzzles.commonDivisor(all, dryOnes);
        if (common == 0) {
            return NONE;
        }
        return (what == 0 ? dryOnes : all) / common;
    }

    public int richest() {
        return now.richestMan(told);
    }

    public int rests(int glass) {
        if (noGlass(glass)) {
            return NONE;
        }
        puzzles.share(now.above[glass], now.below[glass], told.glasses.at(glass, TOLD_NECK));
        return puzzles.restCount;
    }

    public int rest(int glass, int k) {
        if (noGlass(glass) || k < 0) {
            return NONE;
        }
        puzzles.share(now.above[glass], now.below[glass], told.glasses.at(glass, TOLD_NECK));
        return k < puzzles.restCount && k < Puzzles.RESTS_MOST ? puzzles.restAt[k] : NOT_SO;
    }

    public int let(int man, int sum, int what) {
        if (noMan(man) || outside(sum, 1, GRAINS_MOST) || outside(what, 0, 1)) {
            return NONE;
        }
        int best = NOT_SO;
        int fewest = NOT_SO;
        for (int g = 0; g < told.glasses.size && g < GLASSES_MOST; g++) {
            if (told.glasses.at(g, WHOSE) != man) {
                continue;
            }
            int neck = told.glasses.at(g, TOLD_NECK);
            int minutes = Puzzles.minutesFor(sum, now.above[g], now.wetBit(g) == 1 ? neck / 2 : neck);
            if (minutes > 0 && (best == NOT_SO || minutes < fewest)) {
                best = g;
                fewest = minutes;
            }
        }
        return what == 0 ? best : fewest;
    }

    public int nextShort(int what) {
        if (outside(what, 0, 1)) {
            return NONE;
        }
        beginAhead();
        int before = now.shortBits();
        for (int minutes = 1; minutes <= MINUTES_MOST; minutes++) {
            course.pass(then, 1);
            int more = then.shortBits() & ~before;
            if (more != 0) {
                return what == 0 ? minutes : lowestBit(more);
            }
        }
        return NOT_SO;
    }

    private static int lowestBit(int bits) {
        int bit = 0;
        while (bit < 31 && (bits >> bit & 1) == 0) {
            bit++;
        }
        return bit;
    }

    public int heaviest() {
        int best = NONE;
        int most = NONE;
        for (int g = 0; g < told.glasses.size && g < GLASSES_MOST; g++) {
            int grains = now.above[g] + now.below[g];
            if (grains > most) {
                best = g;
                most = grains;
            }
        }
        return best;
    }

    public int wets() {
        return now.wet;
    }

    public int richestIn(int n) {
        if (outside(n, 0, MINUTES_MOST)) {
            return NONE;
        }
        beginAhead();
        course.pass(then, n);
        return then.richestMan(told);
    }

    public int sift(int mesh) {
        if (outside(mesh, 1, 9)) {
            return NONE;
        }
        int sum = 0;
        for (int g = 0; g < told.glasses.size && g < GLASSES_MOST; g++) {
            if (told.glasses.at(g, TOLD_COARSE) <= mesh) {
                sum += now.above[g] + now.below[g];
            }
        }
        return sum;
    }

    public int rank(int man) {
        if (noMan(man)) {
            return NONE;
        }
        int own = now.wealth(told, man);
        int ahead = 0;
        for (int m = 0; m < told.men.size; m++) {
            int wealth = now.wealth(told, m);
            if (wealth > own || wealth == own && m < man) {
                ahead++;
            }
        }
        return ahead;
    }

    public int toCome() {
        int bits = 0;
        for (int p = 0; p < told.payments.size && p < PAYMENTS_MOST; p++) {
            if (now.done[p] == NOT_YET) {
                bits |= 1 << p;
            }
        }
        return bits;
    }

    public int see(int minutes, int glass, int below, boolean atLeast) {
        if (outside(minutes, 1, 99) || noGlass(glass) || outside(below, 0, GRAINS_MOST)) {
            return NONE;
        }
        return seen.add(minutes, glass, below, atLeast);
    }

    public int strike(int seen) {
        return this.seen.addStrike(seen);
    }

    public boolean known(int n) {
        if (outside(n, NONE, seen.size)) {
            return false;
        }
        seen.knownBy = n;
        return true;
    }

    public int necks(int glass) {
        if (noGlass(glass)) {
            return NONE;
        }
        seen.weigh();
        int bits = 0;
        for (int neck = 0; neck <= 9; neck++) {
            then.begin(told);
            course.asItGoes(told);
            course.oddGlass = glass;
            course.oddNeck = neck;
            if (allSo()) {
                bits |= 1 << neck;
            }
        }
        return bits;
    }

    /** Whether all KNOWN ones are so, if it goes on from the state then. */
    private boolean allSo() {
        for (int minutes = 1; minutes <= seen.lastMinute && minutes <= 99; minutes++) {
            course.pass(then, 1);
            if (!seen.agrees(minutes, then)) {
                return false;
            }
        }
        return true;
    }

    public int chance(int seed, int n, int glass) {
        if (seed < 0 || outside(n, 1, 99) || noGlass(glass)) {
            return NONE;
        }
        course.byNumbers(told);
        then.number = seed;
        int times = 0;
        for (int time = 0; time < 10; time++) {
            then.wet = now.wet;
            for (int minute = 0; minute < n; minute++) {
                course.growDamp(then);
            }
            times += then.wetBit(glass);
        }
        return times;
    }

    public int tried(int what, int i, int n) {
        if (outside(what, NO_DAMP, NO_TURNS) || outside(n, 0, MINUTES_MOST) || what == NO_PAYER && noGlass(i)
                || what != NO_PAYER && i != 0) {
            return NONE;
        }
        beginAhead();
        course.leftOut = what;
        course.unpaying = i;
        course.pass(then, n);
        return then.allGrains();
    }

    public int undo() {
        if (undoing.size == 0) {
            return NONE;
        }
        undoing.undoLatest(now);
        return undoing.size;
    }

    public int keep() {
        image.copy(now);
        hasImage = true;
        return now.minute;
    }

    public int back() {
        if (!hasImage) {
            return NONE;
        }
        now.copy(image);
        undoing.clear();
        return now.minute;
    }

    public int count(int what) {
        switch (what) {
            case 0:
                return told.men.size;
            case 1:
                return told.glasses.size;
            case 2:
                return told.payments.size;
            case 3:
                return told.sieves.size;
            case 4:
                return told.laws.knots;
            case 5:
                return now.minute;
            case 6:
                return now.allGrains();
            case 7:
                return now.allPaid();
            case 8:
                return now.taxed;
            case 9:
                return now.shorts();
            case 10:
                return now.allEmptied();
            case 11:
                return seen.size;
            case 12:
                return seen.knownSize();
            case 13:
                return undoing.size;
            default:
                return NONE;
        }
    }

    /** Rows of numbers that LINES of one kind have told. */
    private static final class Rows {
        private final int most;
        private final int width;
        private final int[] cells;
        private int size = 0;

        Rows(int most, int width) {
            this.most = most;
            this.width = width;
            this.cells = new int[Math.max(0, most * width)];
        }

        boolean isFull() {
            return size >= most;
        }

        /** 0, where there is no such row or column. */
        int at(int row, int column) {
            if (row < 0 || row >= size || column < 0 || column >= width) {
                return 0;
            }
            int cell = row * width + column;
            return cell < cells.length ? cells[cell] : 0;
        }

        void add(int[] row) {
            if (isFull() || row.length < width) {
                return;
            }
            System.arraycopy(row, 0, cells, size * width, width);
            size++;
        }

        /** The row with such a name. */
        int find(int letters) {
            for (int row = 0; row < size; row++) {
                if (at(row, NAMED) == letters) {
                    return row;
                }
            }
            return NONE;
        }
    }

    /** All that a TEXT tells. */
    private static final class Told {
        private final Rows men = new Rows(MEN_MOST, 1);
        private final Rows glasses = new Rows(GLASSES_MOST, GLASS_WIDTH);
        private final Rows turns = new Rows(TURNS_MOST, TURN_WIDTH);
        private final Rows payments = new Rows(PAYMENTS_MOST, PAY_WIDTH);
        private final Rows sieves = new Rows(SIEVES_MOST, 1);
        private final Laws laws = new Laws();
        private int damp = 0;
        private int seed = 0;
        private boolean dampTold = false;
        private boolean seedTold = false;

        void clear() {
            men.size = 0;
            glasses.size = 0;
            turns.size = 0;
            payments.size = 0;
            sieves.size = 0;
            laws.clear();
            damp = 0;
            seed = 0;
            dampTold = false;
            seedTold = false;
        }

        int glassesOf(int man) {
            int bits = 0;
            for (int g = 0; g < glasses.size; g++) {
                if (glasses.at(g, WHOSE) == man) {
                    bits |= 1 << g;
                }
            }
            return bits;
        }
    }

    /** The laws, each as KNOTS in the order in which they are worked out. */
    private static final class Laws {
        // an N stands as it is, all else as its kind below 0
        private final int[] code = new int[KNOTS_MOST];
        private int length = 0;
        private int knots = 0;
        private final int[] from = new int[LAWS];
        private final int[] to = new int[LAWS];
        private final int[] names = new int[NAME_COUNT];
        private final long[] stack = new long[KNOTS_MOST];

        Laws() {
            Arrays.fill(from, NONE);
        }

        void clear() {
            length = 0;
            knots = 0;
            Arrays.fill(from, NONE);
        }

        boolean has(int law) {
            return law >= 0 && law < LAWS && from[law] != NONE;
        }

        void begin(int law) {
            if (law >= 0 && law < LAWS) {
                from[law] = length;
            }
        }

        void end(int law) {
            if (law >= 0 && law < LAWS) {
                to[law] = length;
            }
        }

        void add(int knot) {
            if (length < KNOTS_MOST) {
                code[length] = knot;
                length++;
            }
        }

        /** A law's E for the names as they are; ERROR without such a law, too. */
        long value(int law) {
            if (!has(law)) {
                return ERROR;
            }
            int height = 0;
            for (int k = from[law]; k < to[law] && k < KNOTS_MOST; k++) {
                int knot = code[k];
                int kind = -knot;
                long value;
                if (knot >= 0) {
                    value = knot;
                } else if (kind >= ABOVE && kind <= MINUTE) {
                    value = names[kind - ABOVE];
                } else if (kind == NOT) {
                    if (height < 1) {
                        return ERROR;
                    }
                    height--;
                    value = stack[height] == 0 ? 1 : 0;
                } else {
                    if (height < 2) {
                        return ERROR;
                    }
                    height -= 2;
                    value = joined(kind, stack[height], stack[height + 1]);
                }
                if (value > LARGEST || value < -LARGEST || height >= KNOTS_MOST) {
                    return ERROR;
                }
                stack[height] = value;
                height++;
            }
            return height == 1 ? stack[0] : ERROR;
        }

        private static long joined(int kind, long a, long b) {
            long size = a < 0 ? -a : a;
            long otherSize = b < 0 ? -b : b;
            switch (kind) {
                case PLUS:
                    return a + b;
                case MINUS:
                    return a - b;
                case TIMES:
                    // two values within the bounds may have a product beyond a long
                    return size != 0 && otherSize > LARGEST / size ? ERROR : a * b;
                case OVER:
                    return b == 0 ? ERROR : a / b;
                case LESS:
                    return a < b ? 1 : 0;
                case AT_MOST:
                    return a <= b ? 1 : 0;
                case EQUAL:
                    return a == b ? 1 : 0;
                case UNLIKE:
                    return a != b ? 1 : 0;
                case AT_LEAST:
                    return a >= b ? 1 : 0;
                case MORE:
                    return a > b ? 1 : 0;
                case AND:
                    return a != 0 && b != 0 ? 1 : 0;
                case OR:
                    return a != 0 || b != 0 ? 1 : 0;
                default:
                    return ERROR;
            }
        }
    }

    /** Cuts a TEXT into TOKENS, and holds its first FAULT. */
    private static final class Tokens {
        private final int[] words = new int[WORD_COUNT];
        private byte[] bytes = new byte[0];
        private int length = 0;
        private int at = 0;
        private int kind = END;
        private int place = 0;
        private int letters = 0;
        private int value = 0;
        private int faultKind = 0;
        private int faultPlace = NONE;

        Tokens() {
            for (int word = 0; word < WORD_COUNT; word++) {
                int packed = 0;
                for (int k = word * LETTERS; k < (word + 1) * LETTERS && k < WORDS.length(); k++) {
                    packed = packed << 5 | (WORDS.charAt(k) == ' ' ? 0 : WORDS.charAt(k) - 'a' + 1);
                }
                words[word] = packed;
            }
        }

        void start(byte[] text, int n) {
            bytes = text;
            length = Math.min(n, text.length);
            at = 0;
            faultKind = 0;
            faultPlace = NONE;
            next();
        }

        /** A FAULT at this TOKEN; only the first one counts. */
        void fail(int fault) {
            if (faultKind == 0) {
                faultKind = fault;
                faultPlace = place;
            }
        }

        boolean fine() {
            return faultKind == 0;
        }

        void next() {
            while (at < length && (bytes[at] == 32 || bytes[at] == 10)) {
                at++;
            }
            place = at;
            if (at >= length) {
                kind = END;
            } else if (bytes[at] >= 'a' && bytes[at] <= 'z') {
                cutWord();
            } else if (bytes[at] >= '0' && bytes[at] <= '9') {
                cutNumber();
            } else {
                cutSign();
            }
        }

        private void cutWord() {
            letters = 0;
            int shift = 5 * LETTERS;
            while (at < length && bytes[at] >= 'a' && bytes[at] <= 'z') {
                shift -= 5;
                if (shift >= 0) {
                    letters |= (bytes[at] - 'a' + 1) << shift;
                }
                at++;
            }
            kind = shift < 0 ? BAD : OWN_WORD;
            for (int word = 0; word < WORD_COUNT && kind == OWN_WORD; word++) {
                if (words[word] == letters) {
                    kind = FIRST_WORD + word;
                }
            }
        }

        private void cutNumber() {
            value = 0;
            while (at < length && bytes[at] >= '0' && bytes[at] <= '9') {
                // beyond every bound it need not grow
                if (value < 1000000) {
                    value = value * 10 + bytes[at] - '0';
                }
                at++;
            }
            kind = NUMBER;
        }

        private void cutSign() {
            if (at >= length) {
                return;
            }
            kind = signKind(bytes[at]);
            at++;
            if (at >= length) {
                return;
            }
            if (kind == LESS && bytes[at] == '>') {
                kind = UNLIKE;
                at++;
            } else if (kind == LESS && bytes[at] == '=') {
                kind = AT_MOST;
                at++;
            } else if (kind == MORE && bytes[at] == '=') {
                kind = AT_LEAST;
                at++;
            }
        }

        private static int signKind(int sign) {
            switch (sign) {
                case ';':
                    return SEMICOLON;
                case '(':
                    return OPEN;
                case ')':
                    return CLOSE;
                case '+':
                    return PLUS;
                case '-':
                    return MINUS;
                case '*':
                    return TIMES;
                case '/':
                    return OVER;
                case '<':
                    return LESS;
                case '=':
                    return EQUAL;
                case '>':
                    return MORE;
                default:
                    return BAD;
            }
        }
    }

    /** Reads the LINES of a TEXT. */
    private static final class Reader {
        private final Tokens tokens = new Tokens();
        private final LawReader lawReader = new LawReader();
        private final int[] row = new int[GLASS_WIDTH];

        /** How many LINES; NONE with a FAULT. */
        int readText(Told told, byte[] bytes, int n) {
            told.clear();
            tokens.start(bytes, n);
            int lines = 0;
            for (int step = 0; step < TAPE_MOST && tokens.kind != END && tokens.fine(); step++) {
                switch (tokens.kind) {
                    case MAN:
                        readMan(told);
                        break;
                    case GLASS:
                        readGlass(told);
                        break;
                    case TURN:
                        readTurn(told);
                        break;
                    case PAY:
                        readPayment(told);
                        break;
                    case SIEVE:
                        readSieve(told);
                        break;
                    case DAMP:
                        readDamp(told);
                        break;
                    case SEED:
                        readSeed(told);
                        break;
                    case LAW:
                        readLaw(told);
                        break;
                    default:
                        tokens.fail(NO_TOKEN);
                        break;
                }
                lines++;
            }
            return tokens.fine() ? lines : NONE;
        }

        private void readMan(Told told) {
            begin(told.men);
            row[NAMED] = newName(told.men);
            finish(told.men);
        }

        private void readGlass(Told told) {
            begin(told.glasses);
            row[NAMED] = newName(told.glasses);
            row[WHOSE] = toldName(told.men);
            row[TOLD_ABOVE] = number(0, 99);
            row[TOLD_BELOW] = number(0, 99);
            row[TOLD_NECK] = number(1, 9);
            row[TOLD_COARSE] = number(1, 9);
            finish(told.glasses);
        }

        private void readTurn(Told told) {
            begin(told.turns);
            row[TURNED] = toldName(told.glasses);
            row[TURN_MINUTE] = number(0, 99);
            finish(told.turns);
        }

        private void readPayment(Told told) {
            begin(told.payments);
            row[FROM] = toldName(told.glasses);
            if (tokens.fine() && tokens.kind == OWN_WORD && told.glasses.find(tokens.letters) == row[FROM]) {
                tokens.fail(TO_ITSELF);
            }
            row[TO] = toldName(told.glasses);
            row[PAY_MINUTE] = number(0, 99);
            row[PAY_GRAINS] = number(1, 99);
            finish(told.payments);
        }

        private void readSieve(Told told) {
            begin(told.sieves);
            row[0] = number(1, 9);
            finish(told.sieves);
        }

        private void readDamp(Told told) {
            if (told.dampTold) {
                tokens.fail(TOLD_ALREADY);
            }
            tokens.next();
            told.damp = number(0, SURE);
            told.dampTold = true;
            closeLine();
        }

        private void readSeed(Told told) {
            if (told.seedTold) {
                tokens.fail(TOLD_ALREADY);
            }
            tokens.next();
            told.seed = number(0, 99999);
            told.seedTold = true;
            closeLine();
        }

        private void readLaw(Told told) {
            tokens.next();
            int law = tokens.kind - FLOW;
            if (law < 0 || law >= LAWS) {
                tokens.fail(NO_TOKEN);
                return;
            }
            if (told.laws.has(law)) {
                tokens.fail(TOLD_ALREADY);
                return;
            }
            tokens.next();
            told.laws.begin(law);
            lawReader.readE(tokens, told.laws);
            told.laws.end(law);
            closeLine();
        }

        /** Goes behind the word of a LINE, if there is room for what it tells. */
        private void begin(Rows rows) {
            if (rows.isFull()) {
                tokens.fail(TOO_MUCH);
            }
            tokens.next();
        }

        private void finish(Rows rows) {
            closeLine();
            if (tokens.fine()) {
                rows.add(row);
            }
        }

        private void closeLine() {
            if (tokens.kind != SEMICOLON) {
                tokens.fail(NO_TOKEN);
            }
            tokens.next();
        }

        private int newName(Rows rows) {
            int letters = tokens.letters;
            if (tokens.kind != OWN_WORD) {
                tokens.fail(NO_TOKEN);
            } else if (rows.find(letters) != NONE) {
                tokens.fail(TOLD_ALREADY);
            }
            tokens.next();
            return letters;
        }

        private int toldName(Rows rows) {
            int found = tokens.kind == OWN_WORD ? rows.find(tokens.letters) : NONE;
            if (tokens.kind != OWN_WORD) {
                tokens.fail(NO_TOKEN);
            } else if (found == NONE) {
                tokens.fail(NOT_TOLD);
            }
            tokens.next();
            return found;
        }

        private int number(int least, int most) {
            int value = tokens.value;
            if (tokens.kind != NUMBER) {
                tokens.fail(NO_TOKEN);
            } else if (value < least || value > most) {
                tokens.fail(TOO_MUCH);
            }
            tokens.next();
            return value;
        }
    }

    /** Reads an E and puts its KNOTS in the order in which they are worked out. */
    private static final class LawReader {
        private static final int COMPARING = 4;

        // signs that wait for their right side, and every '(' that is open
        private final int[] waiting = new int[KNOTS_MOST + OPEN_MOST];
        private int height = 0;
        private int open = 0;
        private boolean operandDue = true;
        private boolean notMayStand = true;

        void readE(Tokens tokens, Laws laws) {
            height = 0;
            open = 0;
            operandDue = true;
            notMayStand = true;
            for (int step = 0; step < TAPE_MOST && tokens.fine(); step++) {
                if (operandDue) {
                    takeOperand(tokens, laws);
                } else if (tokens.kind == CLOSE && open > 0) {
                    closeOne(laws);
                } else if (joins(tokens.kind)) {
                    takeSign(tokens, laws);
                } else {
                    break;
                }
                tokens.next();
            }
            if (open > 0) {
                tokens.fail(NO_TOKEN);
            }
            release(laws, 0);
        }

        private void takeOperand(Tokens tokens, Laws laws) {
            int kind = tokens.kind;
            if (kind == OPEN) {
                openOne(tokens);
            } else if (kind == NOT && notMayStand) {
                countKnot(tokens, laws);
                push(NOT);
            } else if (kind == NUMBER) {
                if (tokens.value > 9999) {
                    tokens.fail(TOO_MUCH);
                }
                countKnot(tokens, laws);
                laws.add(tokens.value);
                operandDue = false;
            } else if (kind >= ABOVE && kind <= MINUTE) {
                countKnot(tokens, laws);
                laws.add(-kind);
                operandDue = false;
            } else {
                tokens.fail(NO_TOKEN);
            }
        }

        private void openOne(Tokens tokens) {
            if (open >= OPEN_MOST) {
                tokens.fail(TOO_MUCH);
                return;
            }
            open++;
            push(OPEN);
            notMayStand = true;
        }

        private void closeOne(Laws laws) {
            release(laws, 0);
            if (height > 0) {
                height--;
            }
            open--;
        }

        private static boolean joins(int kind) {
            return kind >= AND && kind <= MORE;
        }

        private void takeSign(Tokens tokens, Laws laws) {
            int rank = tightness(tokens.kind);
            release(laws, rank == COMPARING ? rank + 1 : rank);
            if (rank == COMPARING && height > 0 && tightness(waiting[height - 1]) == COMPARING) {
                tokens.fail(NO_TOKEN);
            }
            countKnot(tokens, laws);
            push(tokens.kind);
            operandDue = true;
            notMayStand = rank < COMPARING;
        }

        /** How tightly a sign binds; 0 for what is none. */
        private static int tightness(int kind) {
            switch (kind) {
                case OR:
                    return 1;
                case AND:
                    return 2;
                case NOT:
                    return 3;
                case PLUS:
                case MINUS:
                    return 5;
                case TIMES:
                case OVER:
                    return 6;
                default:
                    return kind >= LESS && kind <= MORE ? COMPARING : 0;
            }
        }

        private void countKnot(Tokens tokens, Laws laws) {
            if (laws.knots >= KNOTS_MOST) {
                tokens.fail(TOO_MUCH);
            } else {
                laws.knots++;
            }
        }

        private void push(int kind) {
            if (height < waiting.length) {
                waiting[height] = kind;
                height++;
            }
        }

        /** Signs that bind as tightly at least have both sides now, back to an open '('. */
        private void release(Laws laws, int rank) {
            while (height > 0 && waiting[height - 1] != OPEN && tightness(waiting[height - 1]) >= rank) {
                height--;
                laws.add(-waiting[height]);
            }
        }
    }

    /** How things stand at a MINUTE. */
    private static final class State {
        private int minute = 0;
        private long number = 0;
        private int taxed = 0;
        private int wet = 0;
        private final int[] above = new int[GLASSES_MOST];
        private final int[] below = new int[GLASSES_MOST];
        private final int[] emptied = new int[GLASSES_MOST];
        private final int[] paid = new int[GLASSES_MOST];
        private final int[] done = new int[PAYMENTS_MOST];

        void begin(Told told) {
            minute = 0;
            number = told.seed;
            taxed = 0;
            wet = 0;
            for (int g = 0; g < GLASSES_MOST; g++) {
                above[g] = told.glasses.at(g, TOLD_ABOVE);
                below[g] = told.glasses.at(g, TOLD_BELOW);
            }
            Arrays.fill(emptied, 0);
            Arrays.fill(paid, 0);
            Arrays.fill(done, NOT_YET);
        }

        void copy(State other) {
            minute = other.minute;
            number = other.number;
            taxed = other.taxed;
            wet = other.wet;
            System.arraycopy(other.above, 0, above, 0, GLASSES_MOST);
            System.arraycopy(other.below, 0, below, 0, GLASSES_MOST);
            System.arraycopy(other.emptied, 0, emptied, 0, GLASSES_MOST);
            System.arraycopy(other.paid, 0, paid, 0, GLASSES_MOST);
            System.arraycopy(other.done, 0, done, 0, PAYMENTS_MOST);
        }

        int wetBit(int glass) {
            return wet >> glass & 1;
        }

        void swap(int glass) {
            if (glass < 0 || glass >= GLASSES_MOST) {
                return;
            }
            int grains = above[glass];
            above[glass] = below[glass];
            below[glass] = grains;
        }

        /** Pours GRAINS without tax; below 0 it takes them back. */
        void carryOver(int one, int other, int grains) {
            if (one < 0 || one >= GLASSES_MOST || other < 0 || other >= GLASSES_MOST) {
                return;
            }
            below[one] -= grains;
            paid[one] += grains;
            above[other] += grains;
        }

        int allGrains() {
            return sum(above) + sum(below);
        }

        int allPaid() {
            return sum(paid);
        }

        int allEmptied() {
            return sum(emptied);
        }

        private static int sum(int[] numbers) {
            int sum = 0;
            for (int k = 0; k < numbers.length; k++) {
                sum += numbers[k];
            }
            return sum;
        }

        /** PAYMENTS (bits) that are SHORT. */
        int shortBits() {
            int bits = 0;
            for (int p = 0; p < PAYMENTS_MOST; p++) {
                if (done[p] == SHORT) {
                    bits |= 1 << p;
                }
            }
            return bits;
        }

        int shorts() {
            return Integer.bitCount(shortBits());
        }

        int wealth(Told told, int man) {
            int sum = 0;
            for (int g = 0; g < told.glasses.size && g < GLASSES_MOST; g++) {
                if (told.glasses.at(g, WHOSE) == man) {
                    sum += above[g] + below[g];
                }
            }
            return sum;
        }

        int richestMan(Told told) {
            int best = NONE;
            int most = NONE;
            for (int m = 0; m < told.men.size; m++) {
                int wealth = wealth(told, m);
                if (wealth > most) {
                    best = m;
                    most = wealth;
                }
            }
            return best;
        }
    }

    /** Lets MINUTES go by: by numbers or as it goes, something left out or otherwise. */
    private static final class Course {
        private Told told = new Told();
        private boolean drawn = false;
        private int leftOut = NONE;
        private int unpaying = NONE;
        private int oddGlass = NONE;
        private int oddNeck = 0;

        void asItGoes(Told told) {
            this.told = told;
            drawn = false;
            leftOut = NONE;
            unpaying = NONE;
            oddGlass = NONE;
        }

        void byNumbers(Told told) {
            asItGoes(told);
            drawn = true;
        }

        /** So many MINUTES go by. */
        void pass(State s, int n) {
            for (int k = 0; k < n; k++) {
                if (leftOut != NO_TURNS) {
                    turnGlasses(s);
                }
                payPayments(s);
                if (leftOut != NO_DAMP) {
                    growDamp(s);
                }
                runSand(s);
                if (leftOut != NO_WIND && s.minute % 10 == 9) {
                    blow(s);
                }
                s.minute++;
            }
        }

        private void turnGlasses(State s) {
            for (int t = 0; t < told.turns.size; t++) {
                if (told.turns.at(t, TURN_MINUTE) == s.minute) {
                    s.swap(told.turns.at(t, TURNED));
                }
            }
        }

        private void payPayments(State s) {
            Rows payments = told.payments;
            for (int p = 0; p < payments.size && p < PAYMENTS_MOST; p++) {
                if (payments.at(p, PAY_MINUTE) != s.minute) {
                    continue;
                }
                int one = payments.at(p, FROM);
                int other = payments.at(p, TO);
                boolean noSuch = one < 0 || one >= GLASSES_MOST || other < 0 || other >= GLASSES_MOST;
                if (noSuch || leftOut == NO_PAYER && one == unpaying) {
                    continue;
                }
                int grains = Math.min(payments.at(p, PAY_GRAINS), s.below[one]);
                s.done[p] = grains < payments.at(p, PAY_GRAINS) ? SHORT : ALL_PAID;
                s.paid[one] += grains;
                // the law of tax sees what is PAID this time as PAID, and as BELOW still
                int tax = Math.min(grains, taxOf(s, one));
                s.below[one] -= grains;
                s.taxed += tax;
                s.above[other] = Math.min(GRAINS_MOST, s.above[other] + grains - tax);
            }
        }

        private int taxOf(State s, int glass) {
            if (leftOut == NO_TAX || !told.laws.has(TAX_LAW)) {
                return 0;
            }
            look(s, glass);
            return bounded(told.laws.value(TAX_LAW), 0);
        }

        /** GLASSES grow WET in one MINUTE. */
        void growDamp(State s) {
            int damp = told.damp;
            boolean byDraw = drawn && damp > 0 && damp < SURE;
            boolean all = drawn ? damp >= SURE : damp >= SURE / 2;
            for (int g = 0; g < told.glasses.size; g++) {
                if (s.wetBit(g) == 1) {
                    continue;
                }
                if (byDraw ? drawNumber(s) % SURE < damp : all) {
                    s.wet |= 1 << g;
                }
            }
        }

        private static int drawNumber(State s) {
            s.number = (s.number * 1103515245L + 12345L) & 0x7fffffffL;
            return (int) (s.number / 65536);
        }

        private void runSand(State s) {
            for (int g = 0; g < told.glasses.size && g < GLASSES_MOST; g++) {
                if (s.above[g] == 0) {
                    continue;
                }
                int grains = Math.min(s.above[g], flowOf(s, g));
                s.above[g] -= grains;
                s.below[g] = Math.min(GRAINS_MOST, s.below[g] + grains);
                if (s.above[g] == 0) {
                    s.emptied[g]++;
                }
            }
        }

        /** How many GRAINS would run in this MINUTE, if there were enough. */
        int flowOf(State s, int glass) {
            int neck = glass == oddGlass ? oddNeck : told.glasses.at(glass, TOLD_NECK);
            int plain = s.wetBit(glass) == 1 ? neck / 2 : neck;
            if (!told.laws.has(FLOW_LAW)) {
                return plain;
            }
            look(s, glass);
            return bounded(told.laws.value(FLOW_LAW), plain);
        }

        private void blow(State s) {
            if (!told.laws.has(WIND_LAW)) {
                return;
            }
            for (int g = 0; g < told.glasses.size && g < GLASSES_MOST; g++) {
                look(s, g);
                s.below[g] = Math.max(0, s.below[g] - bounded(told.laws.value(WIND_LAW), 0));
            }
        }

        /** The laws' NAMES are those of a GLASS. */
        void look(State s, int glass) {
            if (glass < 0 || glass >= GLASSES_MOST) {
                return;
            }
            int[] names = told.laws.names;
            names[0] = s.above[glass];
            names[BELOW - ABOVE] = s.below[glass];
            names[NECK - ABOVE] = glass == oddGlass ? oddNeck : told.glasses.at(glass, TOLD_NECK);
            names[COARSE - ABOVE] = told.glasses.at(glass, TOLD_COARSE);
            names[WET - ABOVE] = s.wetBit(glass);
            names[PAID - ABOVE] = s.paid[glass];
            names[MINUTE - ABOVE] = s.minute;
        }

        private static int bounded(long value, int otherwise) {
            if (value == ERROR) {
                return otherwise;
            }
            if (value < 0) {
                return 0;
            }
            return value > SHARE_MOST ? SHARE_MOST : (int) value;
        }
    }

    /** What was done by call since the last MINUTE went by. */
    private static final class Undoing {
        private final int[] kinds = new int[UNDO_MOST];
        private final int[] ones = new int[UNDO_MOST];
        private final int[] others = new int[UNDO_MOST];
        private final int[] grains = new int[UNDO_MOST];
        private int size = 0;

        void clear() {
            size = 0;
        }

        void add(int kind, int one, int other, int amount) {
            if (size >= UNDO_MOST) {
                forgetOldest();
            }
            kinds[size] = kind;
            ones[size] = one;
            others[size] = other;
            grains[size] = amount;
            size++;
        }

        private void forgetOldest() {
            size = UNDO_MOST - 1;
            System.arraycopy(kinds, 1, kinds, 0, size);
            System.arraycopy(ones, 1, ones, 0, size);
            System.arraycopy(others, 1, others, 0, size);
            System.arraycopy(grains, 1, grains, 0, size);
        }

        void undoLatest(State s) {
            if (size < 1 || size > UNDO_MOST) {
                return;
            }
            size--;
            if (kinds[size] == FLIPPED) {
                s.swap(ones[size]);
            } else if (kinds[size] == POURED) {
                s.carryOver(ones[size], others[size], -grains[size]);
            } else {
                s.wet |= 1 << ones[size];
            }
        }
    }

    /** What was SEEN, and STRIKES. */
    private static final class Seen {
        private final int[] minutes = new int[SEEN_MOST];
        private final int[] glasses = new int[SEEN_MOST];
        private final int[] belows = new int[SEEN_MOST];
        private final boolean[] atLeast = new boolean[SEEN_MOST];
        // which one a STRIKE strikes; NONE for what was SEEN itself
        private final int[] strikes = new int[SEEN_MOST];
        private final boolean[] struck = new boolean[SEEN_MOST];
        private int size = 0;
        private int knownBy = NONE;
        private int lastMinute = 0;

        void clear() {
            size = 0;
            knownBy = NONE;
        }

        int knownSize() {
            return knownBy == NONE ? size : Math.min(knownBy, size);
        }

        int add(int behind, int glass, int below, boolean orMore) {
            if (size >= SEEN_MOST) {
                return NONE;
            }
            minutes[size] = behind;
            glasses[size] = glass;
            belows[size] = below;
            atLeast[size] = orMore;
            strikes[size] = NONE;
            size++;
            return size - 1;
        }

        int addStrike(int one) {
            if (one < 0 || one >= size || size >= SEEN_MOST) {
                return NONE;
            }
            strikes[size] = one;
            size++;
            return size - 1;
        }

        /** Finds which ones are STRUCK, and up to which MINUTE the others look. */
        void weigh() {
            for (int k = 0; k < SEEN_MOST; k++) {
                struck[k] = false;
            }
            lastMinute = 0;
            for (int k = Math.min(SEEN_MOST, knownSize()) - 1; k >= 0; k--) {
                if (struck[k]) {
                    continue;
                }
                if (strikes[k] == NONE) {
                    lastMinute = Math.max(lastMinute, minutes[k]);
                } else if (strikes[k] >= 0 && strikes[k] < SEEN_MOST) {
                    struck[strikes[k]] = true;
                }
            }
        }

        /** Whether all KNOWN ones that look behind so many MINUTES are so in this state. */
        boolean agrees(int behind, State s) {
            for (int k = 0; k < knownSize() && k < SEEN_MOST; k++) {
                int glass = glasses[k];
                if (struck[k] || strikes[k] != NONE || minutes[k] != behind || glass < 0 || glass >= GLASSES_MOST) {
                    continue;
                }
                if ((s.below[glass] >= belows[k]) != atLeast[k]) {
                    return false;
                }
            }
            return true;
        }
    }

    /** What is asked of the state and the TEXT by search. */
    private static final class Puzzles {
        private static final int SHARE_MINUTES = 4;
        private static final int RESTS_MOST = 16;
        private static final int TURNS_COSTS = 2 * GRAINS_MOST + 1;
        private static final int NO_WAY = 1000;

        private int[] costs = new int[TURNS_COSTS];
        private int[] nextCosts = new int[TURNS_COSTS];
        private final int[] room = new int[GLASSES_MOST * GLASSES_MOST];
        private final int[] cameFrom = new int[GLASSES_MOST];
        private final int[] queue = new int[GLASSES_MOST];
        private final int[] restAt = new int[RESTS_MOST];
        private int restCount = 0;

        /** The fewest of these GLASSES whose BELOW in sum is just that. */
        int opened(State s, int mine, int sum) {
            int best = NOT_SO;
            int fewest = GLASSES_MOST + 1;
            for (int bits = 0; bits < 1 << GLASSES_MOST; bits++) {
                if ((bits & ~mine) == 0 && Integer.bitCount(bits) < fewest && belowOf(s, bits) == sum) {
                    best = bits;
                    fewest = Integer.bitCount(bits);
                }
            }
            return best;
        }

        private static int belowOf(State s, int bits) {
            int sum = 0;
            for (int g = 0; g < GLASSES_MOST; g++) {
                if ((bits >> g & 1) == 1) {
                    sum += s.below[g];
                }
            }
            return sum;
        }

        /** VIGIL: for each number ABOVE that can be, the fewest TURNS that lead to it. */
        int fewestTurns(Course course, State s, int glass, int n) {
            if (glass < 0 || glass >= GLASSES_MOST) {
                return NOT_SO;
            }
            int total = Math.min(TURNS_COSTS - 1, s.above[glass] + s.below[glass]);
            for (int above = 0; above <= total && above < TURNS_COSTS; above++) {
                costs[above] = above == s.above[glass] ? 0 : NO_WAY;
            }
            for (int minute = 0; minute < n; minute++) {
                spread(course, s, glass, total);
                int[] before = costs;
                costs = nextCosts;
                nextCosts = before;
                s.minute++;
            }
            int fewest = NO_WAY;
            for (int above = 1; above <= total && above < TURNS_COSTS; above++) {
                fewest = Math.min(fewest, costs[above]);
            }
            return fewest == NO_WAY ? NOT_SO : fewest;
        }

        private void spread(Course course, State s, int glass, int total) {
            for (int above = 0; above <= total && above < TURNS_COSTS; above++) {
                nextCosts[above] = NO_WAY;
            }
            for (int above = 0; above <= total && above < TURNS_COSTS; above++) {
                if (costs[above] < NO_WAY) {
                    step(course, s, glass, above, total - above, costs[above]);
                    step(course, s, glass, total - above, above, costs[above] + 1);
                }
            }
        }

        private void step(Course course, State s, int glass, int above, int below, int cost) {
            if (glass < 0 || glass >= GLASSES_MOST) {
                return;
            }
            s.above[glass] = above;
            s.below[glass] = below;
            int left = above - course.flowOf(s, glass);
            if (left > 0 && left < TURNS_COSTS && cost < nextCosts[left]) {
                nextCosts[left] = cost;
            }
        }

        int sievesApart(Told told) {
            int best = NOT_SO;
            int fewest = SIEVES_MOST + 1;
            int sets = 1 << told.sieves.size;
            for (int bits = 0; bits < sets && bits < 1 << SIEVES_MOST; bits++) {
                if (Integer.bitCount(bits) < fewest && tellApart(told, bits)) {
                    best = bits;
                    fewest = Integer.bitCount(bits);
                }
            }
            return best;
        }

        private static boolean tellApart(Told told, int bits) {
            for (int one = 0; one < told.glasses.size; one++) {
                for (int other = 0; other < one; other++) {
                    int coarse = told.glasses.at(one, TOLD_COARSE);
                    int otherCoarse = told.glasses.at(other, TOLD_COARSE);
                    if (coarse != otherCoarse && !oneTells(told, bits, coarse, otherCoarse)) {
                        return false;
                    }
                }
            }
            return true;
        }

        private static boolean oneTells(Told told, int bits, int coarse, int otherCoarse) {
            for (int sieve = 0; sieve < told.sieves.size; sieve++) {
                int mesh = told.sieves.at(sieve, 0);
                if ((bits >> sieve & 1) == 1 && (coarse <= mesh) != (otherCoarse <= mesh)) {
                    return true;
                }
            }
            return false;
        }

        /** CARRY: ways with room are filled one behind another, until there is none. */
        int mostCarried(Told told, int one, int other) {
            Arrays.fill(room, 0);
            int all = 0;
            for (int p = 0; p < told.payments.size; p++) {
                int grains = told.payments.at(p, PAY_GRAINS);
                addRoom(told.payments.at(p, FROM), told.payments.at(p, TO), grains);
                all += grains;
            }
            int carried = 0;
            for (int way = 0; way < all && findWay(one, other); way++) {
                carried += fillWay(one, other);
            }
            return carried;
        }

        private void addRoom(int one, int other, int grains) {
            if (one >= 0 && one < GLASSES_MOST && other >= 0 && other < GLASSES_MOST) {
                room[one * GLASSES_MOST + other] += grains;
            }
        }

        private int roomOf(int one, int other) {
            boolean such = one >= 0 && one < GLASSES_MOST && other >= 0 && other < GLASSES_MOST;
            return such ? room[one * GLASSES_MOST + other] : 0;
        }

        private boolean findWay(int one, int other) {
            if (one < 0 || one >= GLASSES_MOST || other < 0 || other >= GLASSES_MOST) {
                return false;
            }
            Arrays.fill(cameFrom, NONE);
            cameFrom[one] = one;
            queue[0] = one;
            int waiting = 1;
            for (int k = 0; k < waiting && k < GLASSES_MOST; k++) {
                for (int g = 0; g < GLASSES_MOST; g++) {
                    if (cameFrom[g] == NONE && roomOf(queue[k], g) > 0 && waiting < GLASSES_MOST) {
                        cameFrom[g] = queue[k];
                        queue[waiting] = g;
                        waiting++;
                    }
                }
            }
            return cameFrom[other] != NONE;
        }

        private int fillWay(int one, int other) {
            int grains = Integer.MAX_VALUE;
            int at = other;
            for (int k = 0; k < GLASSES_MOST && at != one && at >= 0 && at < GLASSES_MOST; k++) {
                grains = Math.min(grains, roomOf(cameFrom[at], at));
                at = cameFrom[at];
            }
            at = other;
            for (int k = 0; k < GLASSES_MOST && at != one && at >= 0 && at < GLASSES_MOST; k++) {
                addRoom(cameFrom[at], at, -grains);
                addRoom(at, cameFrom[at], grains);
                at = cameFrom[at];
            }
            return grains;
        }

        int reached(Told told, int glass) {
            int bits = 1 << glass;
            for (int round = 0; round < GLASSES_MOST; round++) {
                for (int p = 0; p < told.payments.size; p++) {
                    if ((bits >> told.payments.at(p, FROM) & 1) == 1) {
                        bits |= 1 << told.payments.at(p, TO);
                    }
                }
            }
            return bits;
        }

        /** In how many MINUTES just this sum has run; 0: in none. */
        static int minutesFor(int sum, int above, int each) {
            if (each <= 0 || sum > above) {
                return 0;
            }
            if (sum < above && sum % each != 0) {
                return 0;
            }
            return (sum + each - 1) / each;
        }

        /** Finds the RESTS of two who share a GLASS. */
        void share(int above, int below, int neck) {
            restCount = 0;
            for (int first = 0; first < SHARE_MINUTES; first++) {
                for (int second = 0; second < SHARE_MINUTES; second++) {
                    boolean rests = isBest(first, second, above, below, neck)
                            && isBest(second, first, above, below, neck);
                    if (rests && restCount < RESTS_MOST) {
                        restAt[restCount] = 10 * first + second;
                        restCount++;
                    }
                }
            }
        }

        private static boolean isBest(int mine, int others, int above, int below, int neck) {
            int has = gain(mine, others, above, below, neck);
            for (int otherwise = 0; otherwise < SHARE_MINUTES; otherwise++) {
                if (gain(otherwise, others, above, below, neck) > has) {
                    return false;
                }
            }
            return true;
        }

        private static int gain(int mine, int others, int above, int below, int neck) {
            if (mine == others) {
                return 0;
            }
            if (mine < others) {
                return Math.min(below, neck * (others - mine));
            }
            int ran = Math.min(below, neck * (mine - others));
            return Math.min(above + ran, neck * (SHARE_MINUTES - mine));
        }

        static long commonDivisor(long a, long b) {
            long large = a;
            long small = b;
            for (int step = 0; step < 200 && small != 0; step++) {
                long left = large % small;
                large = small;
                small = left;
            }
            return large;
        }
    }
}
