/** Sixteen registers with a fraction each, and one text to tell fractions by; ../shared/DOC.md says what calls do. */
public final class FractionDesk {
    public static final int NONE = -1;
    public static final int BIG = -1;
    public static final int ZERO = -2;

    private static final int REGISTERS = 16;
    private static final int MOST_BITS = 2048;
    private static final int MOST_POWER = 2048;
    private static final int MOST_CHARACTERS = 1400;
    private static final int MOST_TYPED = 8;
    private static final int FIRST_CHARACTER = 32;
    private static final int LAST_CHARACTER = 126;

    private static final int SUM = 0;
    private static final int DIFFERENCE = 1;
    private static final int PRODUCT = 2;
    private static final int QUOTIENT = 3;
    private static final int LESSER = 4;
    private static final int GREATER = 5;
    private static final int WHOLE_QUOTIENT = 6;
    private static final int REST = 7;
    private static final int COMMON_DIVISOR = 8;

    private static final int OTHER_SIGN = 0;
    private static final int SIZE = 1;
    private static final int TURNED_OVER = 2;
    private static final int ROUNDED_DOWN = 3;
    private static final int ROUNDED_UP = 4;
    private static final int ITS_TOP = 5;
    private static final int ITS_BOTTOM = 6;

    private final Fraction[] registers;
    private final Bench bench;
    private final Text text;
    private int wrongPlace;

    public FractionDesk() {
        registers = new Fraction[REGISTERS];
        for (int i = 0; i < REGISTERS; i++) {
            registers[i] = new Fraction();
        }
        bench = new Bench();
        text = new Text();
        wrongPlace = NONE;
    }

    public void set(int to, long top, long bottom) throws IllegalArgumentException {
        Fraction target = register(to);
        if (bottom == 0) {
            throw new IllegalArgumentException("bottom is 0");
        }
        bench.takeNumbers(top, bottom);
        bench.keepReduced(target);
    }

    public int combine(int to, int kind, int a, int b) throws IllegalArgumentException {
        Fraction target = register(to);
        Fraction x = register(a);
        Fraction y = register(b);
        if (kind < SUM || kind > COMMON_DIVISOR) {
            throw new IllegalArgumentException("no such kind");
        }
        if (kind == COMMON_DIVISOR && !(x.isWhole() && y.isWhole())) {
            throw new IllegalArgumentException("not whole");
        }
        boolean divides = kind == QUOTIENT || kind == WHOLE_QUOTIENT || kind == REST;
        if (divides && y.signum() == 0) {
            return ZERO;
        }
        switch (kind) {
            case SUM:
                bench.add(x, y, y.below);
                return bench.keepReduced(target);
            case DIFFERENCE:
                bench.add(x, y, !y.below);
                return bench.keepReduced(target);
            case PRODUCT:
                bench.multiply(x, y);
                return bench.keepReduced(target);
            case QUOTIENT:
                bench.divide(x, y);
                return bench.keepReduced(target);
            case LESSER:
                bench.take(bench.compareFractions(x, y) <= 0 ? x : y);
                return bench.keep(target);
            case GREATER:
                bench.take(bench.compareFractions(x, y) >= 0 ? x : y);
                return bench.keep(target);
            case WHOLE_QUOTIENT:
                bench.divideWhole(x, y);
                return bench.keep(target);
            case REST:
                bench.takeRest(x, y);
                return bench.keepReduced(target);
            default:
                bench.takeCommonDivisor(x, y);
                return bench.keep(target);
        }
    }

    public int change(int to, int kind, int a) throws IllegalArgumentException {
        Fraction target = register(to);
        Fraction x = register(a);
        if (kind < OTHER_SIGN || kind > ITS_BOTTOM) {
            throw new IllegalArgumentException("no such kind");
        }
        if (kind == TURNED_OVER && x.signum() == 0) {
            return ZERO;
        }
        switch (kind) {
            case OTHER_SIGN:
                bench.takeParts(x.top, x.bottom, !x.below);
                break;
            case SIZE:
                bench.takeParts(x.top, x.bottom, false);
                break;
            case TURNED_OVER:
                bench.takeParts(x.bottom, x.top, x.below);
                break;
            case ROUNDED_DOWN:
                bench.round(x, x.below);
                break;
            case ROUNDED_UP:
                bench.round(x, !x.below);
                break;
            case ITS_TOP:
                bench.takeWhole(x.top, x.below);
                break;
            default:
                bench.takeWhole(x.bottom, false);
                break;
        }
        return bench.keep(target);
    }

    public int power(int to, int a, int n) throws IllegalArgumentException {
        Fraction target = register(to);
        Fraction x = register(a);
        if (n < -MOST_POWER || n > MOST_POWER) {
            throw new IllegalArgumentException("no such power");
        }
        if (n < 0 && x.signum() == 0) {
            return ZERO;
        }
        bench.raise(x, n);
        return bench.keep(target);
    }

    public int order(int a, int b) throws IllegalArgumentException {
        Fraction x = register(a);
        Fraction y = register(b);
        return bench.compareFractions(x, y);
    }

    public int sign(int a) throws IllegalArgumentException {
        return register(a).signum();
    }

    public int places(int a, int which) throws IllegalArgumentException {
        return half(a, which).bits();
    }

    public long part(int a, int which, int k) throws IllegalArgumentException {
        return half(a, which).word(k);
    }

    public int write(int a) throws IllegalArgumentException {
        Fraction x = register(a);
        text.length = 0;
        if (x.below) {
            text.put('-');
        }
        text.putDecimal(bench.copyOf(x.top));
        if (!x.isWhole()) {
            text.put('/');
            text.putDecimal(bench.copyOf(x.bottom));
        }
        return text.length;
    }

    public int type(long characters, int n) {
        if (n < 1 || n > MOST_TYPED || text.length + n > MOST_CHARACTERS) {
            return NONE;
        }
        for (int i = 0; i < n; i++) {
            int character = byteOf(characters, i);
            if (character < FIRST_CHARACTER || character > LAST_CHARACTER) {
                return NONE;
            }
        }
        for (int i = n - 1; i >= 0; i--) {
            text.put((char) byteOf(characters, i));
        }
        return text.length;
    }

    public int wipe() {
        int had = text.length;
        text.length = 0;
        return had;
    }

    public int character(int i) {
        return text.at(i);
    }

    public int read(int to) throws IllegalArgumentException, IllegalStateException {
        Fraction target = register(to);
        int wrong = text.wrongAt();
        if (wrong != NONE) {
            wrongPlace = wrong;
            throw new IllegalStateException("the text tells no fraction");
        }
        if (!bench.takeText(text)) {
            return BIG;
        }
        text.length = 0;
        return bench.keepReduced(target);
    }

    public int place() {
        return wrongPlace;
    }

    private Fraction register(int number) {
        if (number < 0 || number >= REGISTERS) {
            throw new IllegalArgumentException("no such register");
        }
        return registers[number];
    }

    private Whole half(int a, int which) {
        Fraction x = register(a);
        if (which != 0 && which != 1) {
            throw new IllegalArgumentException("neither top nor bottom");
        }
        return which == 0 ? x.top : x.bottom;
    }

    private static int byteOf(long characters, int i) {
        return (int) (characters >>> 8 * i) & 255;
    }

    /**
     * A whole number from 0 up, its lowest limb first. Limbs have 31 bits and not 32, so that the product of two
     * with all that is carried stays inside a long, and no division has to be one of unsigned numbers.
     */
    private static final class Whole {
        static final int LIMB_BITS = 31;
        static final int LIMB_MASK = 0x7FFFFFFF;
        static final int LIMBS_OF_A_LONG = 3;
        static final int WORD_BITS = 32;
        static final long WORD_MASK = 0xFFFFFFFFL;

        /** What stands at size and above is left from earlier numbers. */
        final int[] limbs;
        int size;

        Whole(int room) {
            limbs = new int[Math.max(room, LIMBS_OF_A_LONG)];
            size = 0;
        }

        boolean isZero() {
            return size == 0;
        }

        boolean isOne() {
            return size == 1 && limbs[0] == 1;
        }

        boolean isSmallEnough() {
            return bits() <= MOST_BITS;
        }

        int bits() {
            if (size == 0) {
                return 0;
            }
            return size * LIMB_BITS - spareBits();
        }

        /** How far the highest limb can be shifted before it loses something. */
        int spareBits() {
            return size == 0 ? 0 : Integer.numberOfLeadingZeros(limbs[size - 1]) - 1;
        }

        long word(int k) {
            if (k < 0 || k >= size) {
                return 0;
            }
            int i = k * WORD_BITS / LIMB_BITS;
            int offset = k * WORD_BITS % LIMB_BITS;
            long low = limb(i) >>> offset;
            long high = (long) limb(i + 1) << LIMB_BITS - offset;
            return (low | high) & WORD_MASK;
        }

        int limb(int i) {
            return i >= 0 && i < size ? limbs[i] : 0;
        }

        /** Limb i of the number as it would be with all its bits moved up by less than a limb. */
        long shiftedLimb(int i, int shift) {
            long moved = (long) limb(i) << shift | limb(i - 1) >>> LIMB_BITS - shift;
            return moved & LIMB_MASK;
        }

        void trim(int length) {
            int n = Math.min(length, limbs.length);
            while (n > 0 && limbs[n - 1] == 0) {
                n--;
            }
            size = Math.max(n, 0);
        }

        /** Takes the number as one without a sign, so that the size of the lowest long is told too. */
        void becomeLong(long number) {
            limbs[0] = (int) (number & LIMB_MASK);
            limbs[1] = (int) (number >>> LIMB_BITS & LIMB_MASK);
            limbs[2] = (int) (number >>> 2 * LIMB_BITS);
            trim(LIMBS_OF_A_LONG);
        }

        void become(Whole other) {
            int n = Math.min(other.size, limbs.length);
            System.arraycopy(other.limbs, 0, limbs, 0, n);
            trim(n);
        }

        /** Becomes f a + g b, which must not be below 0; f and g have at most 31 bits. This may be a or b. */
        void becomeMix(long f, Whole a, long g, Whole b) {
            int n = Math.max(a.size, b.size);
            if (n >= limbs.length) {
                size = 0;
                return;
            }
            long carry = 0;
            for (int i = 0; i < n; i++) {
                int ofA = i < a.size ? a.limbs[i] : 0;
                int ofB = i < b.size ? b.limbs[i] : 0;
                long sum = f * ofA + g * ofB + carry;
                limbs[i] = (int) (sum & LIMB_MASK);
                carry = sum >> LIMB_BITS;
            }
            limbs[n] = (int) (carry & LIMB_MASK);
            trim(n + 1);
        }

        /** This must be neither a nor b. */
        void becomeProduct(Whole a, Whole b) {
            int n = a.size + b.size;
            if (n > limbs.length) {
                size = 0;
                return;
            }
            // the limbs above these are each written before they are read
            for (int j = 0; j < b.size; j++) {
                limbs[j] = 0;
            }
            for (int i = 0; i < a.size; i++) {
                long factor = a.limbs[i];
                long carry = 0;
                for (int j = 0; j < b.size; j++) {
                    long sum = factor * b.limbs[j] + limbs[i + j] + carry;
                    limbs[i + j] = (int) (sum & LIMB_MASK);
                    carry = sum >>> LIMB_BITS;
                }
                limbs[i + b.size] = (int) carry;
            }
            trim(n);
        }

        void timesPlus(int factor, int plus) {
            long carry = plus;
            for (int i = 0; i < size; i++) {
                long sum = (long) factor * limbs[i] + carry;
                limbs[i] = (int) (sum & LIMB_MASK);
                carry = sum >>> LIMB_BITS;
            }
            if (carry != 0 && size < limbs.length) {
                limbs[size] = (int) carry;
                size++;
            }
        }

        /** Becomes the quotient and answers the rest. */
        int divideSmall(int divisor) {
            if (divisor <= 0) {
                return 0;
            }
            long rest = 0;
            for (int i = size - 1; i >= 0; i--) {
                long part = rest << LIMB_BITS | limbs[i];
                limbs[i] = (int) (part / divisor);
                rest = part % divisor;
            }
            trim(size);
            return (int) rest;
        }

        /** Becomes the rest by the divisor (schoolbook division, limb by limb from above). */
        void leaveRest(Whole divisor, Whole quotient) {
            int steps = size - divisor.size + 1;
            quotient.size = 0;
            if (divisor.size == 0 || steps <= 0 || steps > quotient.limbs.length || size >= limbs.length) {
                return;
            }
            // the first step too looks at the limb above the divisor's highest
            limbs[size] = 0;
            for (int at = steps - 1; at >= 0; at--) {
                long digit = trialDigit(divisor, at);
                if (takeAway(divisor, digit, at)) {
                    digit--;
                    takeAway(divisor, -1, at);
                }
                quotient.limbs[at] = (int) digit;
            }
            quotient.trim(steps);
            trim(divisor.size);
        }

        /** The quotient's next limb, or 1 more than it: told from the highest limbs alone. */
        private long trialDigit(Whole divisor, int at) {
            int shift = divisor.spareBits();
            int above = at + divisor.size;
            long first = divisor.shiftedLimb(divisor.size - 1, shift);
            long second = divisor.shiftedLimb(divisor.size - 2, shift);
            if (first <= 0) {
                return 0;
            }
            long high = shiftedLimb(above, shift) << LIMB_BITS | shiftedLimb(above - 1, shift);
            long next = shiftedLimb(above - 2, shift);
            long digit = high / first;
            long rest = high % first;
            // twice is enough: the divisor's shifted highest limb has its highest bit
            for (int i = 0; i < 2 && rest <= LIMB_MASK; i++) {
                if (digit <= LIMB_MASK && digit * second <= (rest << LIMB_BITS | next)) {
                    break;
                }
                digit--;
                rest += first;
            }
            return digit;
        }

        /** Takes digit times the divisor away, from limb at on; whether it was too much. No later step looks above. */
        private boolean takeAway(Whole divisor, long digit, int at) {
            int above = at + divisor.size;
            if (at < 0 || above >= limbs.length) {
                return false;
            }
            long carry = 0;
            for (int i = 0; i < divisor.size; i++) {
                long left = limbs[at + i] - digit * divisor.limbs[i] + carry;
                limbs[at + i] = (int) (left & LIMB_MASK);
                carry = left >> LIMB_BITS;
            }
            return limbs[above] + carry < 0;
        }

        static int compare(Whole a, Whole b) {
            if (a.size != b.size) {
                return a.size < b.size ? -1 : 1;
            }
            for (int i = a.size - 1; i >= 0; i--) {
                if (a.limbs[i] != b.limbs[i]) {
                    return a.limbs[i] < b.limbs[i] ? -1 : 1;
                }
            }
            return 0;
        }
    }

    /** What a register has: always without a common divisor, bottom above 0, below only if top is not 0. */
    private static final class Fraction {
        /** 67 limbs of 31 bits have 2077 bits. */
        static final int ROOM = 67;

        final Whole top;
        final Whole bottom;
        boolean below;

        Fraction() {
            top = new Whole(ROOM);
            bottom = new Whole(ROOM);
            bottom.becomeLong(1);
            below = false;
        }

        boolean isWhole() {
            return bottom.isOne();
        }

        int signum() {
            if (top.isZero()) {
                return 0;
            }
            return below ? -1 : 1;
        }
    }

    /** Greatest common divisors, by Lehmer's way: many steps of Euclid's are told from the highest 62 bits alone. */
    private static final class Divisors {
        /** Euclid's way needs at most 1.45 steps for a bit, and no number here has more than 4216 bits. */
        private static final int MOST_STEPS = 6200;
        private static final int MOST_LEAP = 64;
        private static final long FACTOR_LIMIT = 1L << Whole.LIMB_BITS;

        private final Whole spare;
        private long f;
        private long g;
        private long h;
        private long k;

        Divisors() {
            spare = new Whole(Bench.ROOM);
        }

        /** Uses both numbers up; the answer is one of the two. */
        Whole greatestCommon(Whole a, Whole b) {
            boolean inOrder = Whole.compare(a, b) >= 0;
            Whole x = inOrder ? a : b;
            Whole y = inOrder ? b : a;
            for (int step = 0; step < MOST_STEPS && !y.isZero(); step++) {
                if (findLeap(x, y)) {
                    spare.becomeMix(f, x, g, y);
                    y.becomeMix(h, x, k, y);
                    x.become(spare);
                } else {
                    x.leaveRest(y, spare);
                    Whole rest = x;
                    x = y;
                    y = rest;
                }
            }
            return x;
        }

        /**
         * Finds factors so that f x + g y and h x + k y are two neighbours in Euclid's row for x and y. A step counts
         * only if its quotient is the same for all numbers that begin with these bits: their ratio lies between the
         * two that are divided here.
         */
        private boolean findLeap(Whole x, Whole y) {
            f = 1;
            g = 0;
            h = 0;
            k = 1;
            int shift = x.spareBits();
            long high = highest(x, x.size, shift);
            long low = highest(y, x.size, shift);
            for (int i = 0; i < MOST_LEAP && low + h > 0 && low + k > 0; i++) {
                long quotient = (high + f) / (low + h);
                if (quotient >= FACTOR_LIMIT || quotient != (high + g) / (low + k)) {
                    break;
                }
                long nextH = f - quotient * h;
                long nextK = g - quotient * k;
                if (Math.abs(nextH) >= FACTOR_LIMIT || Math.abs(nextK) >= FACTOR_LIMIT) {
                    break;
                }
                f = h;
                g = k;
                h = nextH;
                k = nextK;
                long rest = high - quotient * low;
                high = low;
                low = rest;
            }
            return g != 0;
        }

        private static long highest(Whole number, int size, int shift) {
            return number.shiftedLimb(size - 1, shift) << Whole.LIMB_BITS | number.shiftedLimb(size - 2, shift);
        }
    }

    /**
     * Where a fraction is worked out before a register becomes it: so a register may be told from itself, and stays
     * as it was when the answer is BIG. Its numbers are made once, as no call should make any.
     */
    private static final class Bench {
        /** The sum of two products of registers has 4097 bits: 133 limbs; a division needs one limb more. */
        static final int ROOM = 136;
        private static final int HIGHEST_POWER_BIT = 11;

        private final Whole top;
        private final Whole bottom;
        private final Whole left;
        private final Whole right;
        private final Whole spare;
        private final Divisors divisors;
        private boolean below;

        Bench() {
            top = new Whole(ROOM);
            bottom = new Whole(ROOM);
            left = new Whole(ROOM);
            right = new Whole(ROOM);
            spare = new Whole(ROOM);
            divisors = new Divisors();
            below = false;
        }

        int keepReduced(Fraction target) {
            if (!bottom.isOne()) {
                left.become(top);
                right.become(bottom);
                Whole divisor = divisors.greatestCommon(left, right);
                divideOut(top, divisor);
                divideOut(bottom, divisor);
            }
            return keep(target);
        }

        private void divideOut(Whole number, Whole divisor) {
            if (!divisor.isOne()) {
                number.leaveRest(divisor, spare);
                number.become(spare);
            }
        }

        int keep(Fraction target) {
            if (!top.isSmallEnough() || !bottom.isSmallEnough()) {
                return BIG;
            }
            target.top.become(top);
            target.bottom.become(bottom);
            target.below = below && !top.isZero();
            return 0;
        }

        void takeNumbers(long number, long by) {
            top.becomeLong(Math.abs(number));
            bottom.becomeLong(Math.abs(by));
            below = (number < 0) != (by < 0);
        }

        /** Whether what the text tells is small enough as it stands there. */
        boolean takeText(Text text) {
            int from = text.firstDigit();
            int to = text.digitsEnd(from);
            below = from > 0;
            bottom.becomeLong(1);
            if (!text.tell(from, to, top)) {
                return false;
            }
            return to >= text.length || text.tell(to + 1, text.length, bottom);
        }

        void take(Fraction x) {
            takeParts(x.top, x.bottom, x.below);
        }

        void takeParts(Whole newTop, Whole newBottom, boolean isBelow) {
            top.become(newTop);
            bottom.become(newBottom);
            below = isBelow;
        }

        void takeWhole(Whole number, boolean isBelow) {
            top.become(number);
            bottom.becomeLong(1);
            below = isBelow;
        }

        Whole copyOf(Whole number) {
            spare.become(number);
            return spare;
        }

        /** Left and right are to each other as x and y are, signs aside. */
        private void cross(Fraction x, Fraction y) {
            left.becomeProduct(x.top, y.bottom);
            right.becomeProduct(y.top, x.bottom);
        }

        int compareFractions(Fraction x, Fraction y) {
            int xSign = x.signum();
            int ySign = y.signum();
            if (xSign != ySign) {
                return xSign < ySign ? -1 : 1;
            }
            cross(x, y);
            int sizes = Whole.compare(left, right);
            return xSign < 0 ? -sizes : sizes;
        }

        void add(Fraction x, Fraction y, boolean yBelow) {
            cross(x, y);
            bottom.becomeProduct(x.bottom, y.bottom);
            below = x.below;
            if (x.below == yBelow) {
                top.becomeMix(1, left, 1, right);
            } else if (Whole.compare(left, right) >= 0) {
                top.becomeMix(1, left, -1, right);
            } else {
                top.becomeMix(1, right, -1, left);
                below = yBelow;
            }
        }

        void multiply(Fraction x, Fraction y) {
            top.becomeProduct(x.top, y.top);
            bottom.becomeProduct(x.bottom, y.bottom);
            below = x.below != y.below;
        }

        void divide(Fraction x, Fraction y) {
            cross(x, y);
            takeParts(left, right, x.below != y.below);
        }

        void divideWhole(Fraction x, Fraction y) {
            cross(x, y);
            below = x.below != y.below;
            roundRatio(below);
        }

        void takeRest(Fraction x, Fraction y) {
            cross(x, y);
            bottom.becomeProduct(x.bottom, y.bottom);
            below = y.below;
            left.leaveRest(right, spare);
            if (x.below == y.below || left.isZero()) {
                top.become(left);
            } else {
                top.becomeMix(1, right, -1, left);
            }
        }

        void round(Fraction x, boolean awayFromZero) {
            left.become(x.top);
            right.become(x.bottom);
            below = x.below;
            roundRatio(awayFromZero);
        }

        private void roundRatio(boolean awayFromZero) {
            left.leaveRest(right, top);
            if (awayFromZero && !left.isZero()) {
                top.timesPlus(1, 1);
            }
            bottom.becomeLong(1);
        }

        void takeCommonDivisor(Fraction x, Fraction y) {
            left.become(x.top);
            right.become(y.top);
            takeWhole(divisors.greatestCommon(left, right), false);
        }

        /** What it makes needs no reducing: powers of two numbers have no more common divisors than these. */
        void raise(Fraction x, int n) {
            int times = Math.abs(n);
            below = x.below && times % 2 == 1;
            raiseWhole(top, n < 0 ? x.bottom : x.top, times);
            raiseWhole(bottom, n < 0 ? x.top : x.bottom, times);
        }

        /**
         * From the highest bit of times down: so no number on the way is greater than the last one, and one that is
         * not small enough can stand for it.
         */
        private void raiseWhole(Whole result, Whole base, int times) {
            result.becomeLong(1);
            for (int bit = HIGHEST_POWER_BIT; bit >= 0 && result.isSmallEnough(); bit--) {
                multiplyWhole(result, result);
                if ((times >> bit & 1) == 1 && result.isSmallEnough()) {
                    multiplyWhole(result, base);
                }
            }
        }

        private void multiplyWhole(Whole number, Whole by) {
            spare.becomeProduct(number, by);
            number.become(spare);
        }
    }

    /** The text, and what it says about a fraction. */
    private static final class Text {
        /** Decimal digits go to and from limbs by nines, the most that a limb's 31 bits hold. */
        private static final int DIGITS_AT_ONCE = 9;
        private static final int BILLION = 1000000000;

        private final char[] characters;
        int length;

        Text() {
            characters = new char[MOST_CHARACTERS];
            length = 0;
        }

        int at(int i) {
            return i >= 0 && i < length ? characters[i] : NONE;
        }

        void put(char character) {
            if (length < characters.length) {
                characters[length] = character;
                length++;
            }
        }

        /** Uses the number up. Division tells its digits from the lowest on, so they are put backwards first. */
        void putDecimal(Whole number) {
            int from = length;
            for (int i = 0; i < MOST_CHARACTERS && !number.isZero(); i++) {
                putNineBackwards(number.divideSmall(BILLION));
            }
            while (length > from && characters[length - 1] == '0') {
                length--;
            }
            if (length == from) {
                put('0');
            }
            turnRound(from, length - 1);
        }

        private void putNineBackwards(int digits) {
            int rest = digits;
            for (int i = 0; i < DIGITS_AT_ONCE; i++) {
                put((char) ('0' + rest % 10));
                rest /= 10;
            }
        }

        private void turnRound(int first, int last) {
            if (first < 0 || last >= characters.length) {
                return;
            }
            for (int i = first, j = last; i < j; i++, j--) {
                char kept = characters[i];
                characters[i] = characters[j];
                characters[j] = kept;
            }
        }

        int firstDigit() {
            return at(0) == '-' ? 1 : 0;
        }

        int digitsEnd(int from) {
            int i = from;
            while (i < length && isDigit(at(i))) {
                i++;
            }
            return i;
        }

        private static boolean isDigit(int character) {
            return character >= '0' && character <= '9';
        }

        /** The first place at which the text cannot go on to tell a fraction; NONE if it tells one. */
        int wrongAt() {
            int from = firstDigit();
            int to = digitsEnd(from);
            if (to > from && to == length) {
                return NONE;
            }
            if (to == from || at(to) != '/') {
                return to;
            }
            int end = digitsEnd(to + 1);
            boolean tellsOne = end == length && !isAllZeros(to + 1, end);
            return tellsOne ? NONE : end;
        }

        /** True for no digits too: they tell no bottom either. */
        private boolean isAllZeros(int from, int to) {
            for (int i = from; i < to; i++) {
                if (at(i) != '0') {
                    return false;
                }
            }
            return true;
        }

        /** The number becomes what the digits tell; false as soon as it is too great, whatever it is then. */
        boolean tell(int from, int to, Whole number) {
            number.size = 0;
            int digits = 0;
            int unit = 1;
            for (int i = from; i < to; i++) {
                digits = digits * 10 + (at(i) - '0');
                unit *= 10;
                if (unit == BILLION || i == to - 1) {
                    number.timesPlus(unit, digits);
                    if (!number.isSmallEnough()) {
                        return false;
                    }
                    digits = 0;
                    unit = 1;
                }
            }
            return true;
        }
    }
}
