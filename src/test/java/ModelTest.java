import java.math.BigInteger;
import java.util.Random;

/**
 * Long runs of calls on a desk and on a model of it in BigInteger, with the same answers due from both. The numbers are
 * drawn from a row that is the same in every run of the test.
 */
public final class ModelTest {
    private static final int RUNS = 150;
    private static final int CALLS = 512;

    private final Random row;
    private final FractionDesk desk = new FractionDesk();
    private final Model model = new Model();
    private String call = "";

    private ModelTest(int run) {
        row = new Random(run);
    }

    public static void main(String[] args) {
        int runs = args.length > 0 ? Integer.parseInt(args[0]) : RUNS;
        for (int run = 0; run < runs; run++) {
            new ModelTest(run).run(run);
        }
        Checks.end("ModelTest");
    }

    private void run(int run) {
        for (int i = 0; i < CALLS; i++) {
            String got = step();
            Checks.same("run " + run + ", call " + i + ", " + call, got, model.answer);
            if (i % 16 == 0 || i == CALLS - 1) {
                compareAll(run, i);
            }
        }
    }

    private void compareAll(int run, int i) {
        for (int a = 0; a < 16; a++) {
            Checks.same("run " + run + ", after call " + i + ", " + call + ", register " + a,
                Checks.fraction(desk, a), model.tops[a] + "/" + model.bottoms[a]);
            Checks.due("places", desk.places(a, 0), model.tops[a].abs().bitLength());
            Checks.due("places below", desk.places(a, 1), model.bottoms[a].bitLength());
        }
        Checks.same("run " + run + ", after call " + i + ", " + call + ", text", Checks.text(desk), model.text);
        Checks.due("place", desk.place(), model.place);
    }

    /** Makes one call on both; what the model answers stands in it, what the desk answers is told. */
    private String step() {
        int to = register();
        int a = register();
        int b = register();
        int kind = row.nextInt(11) - 1;
        switch (row.nextInt(16)) {
            case 0:
                return stepSet(to);
            case 1:
            case 2:
                return stepRead(to);
            case 3:
            case 4:
            case 5:
            case 6:
            case 7:
            case 8:
                call = "combine " + to + " " + kind + " " + a + " " + b;
                model.combine(to, kind, a, b);
                return Checks.told(() -> desk.combine(to, kind, a, b));
            case 9:
                call = "change " + to + " " + kind + " " + a;
                model.change(to, kind, a);
                return Checks.told(() -> desk.change(to, kind, a));
            case 10:
                return stepPower(to, a);
            case 11:
                call = "order " + a + " " + b;
                model.order(a, b);
                return Checks.told(() -> desk.order(a, b));
            case 12:
                call = "write " + a;
                model.write(a);
                return Checks.told(() -> desk.write(a));
            case 13:
                return stepType();
            case 14:
                call = "wipe";
                model.wipe();
                return Checks.told(() -> desk.wipe());
            default:
                return stepPart(a);
        }
    }

    private int register() {
        return row.nextInt(60) == 0 ? row.nextInt(40) - 12 : row.nextInt(16);
    }

    private String stepSet(int to) {
        long top = someLong();
        long bottom = someLong();
        call = "set " + to + " " + top + " " + bottom;
        model.set(to, top, bottom);
        return Checks.told(() -> {
            desk.set(to, top, bottom);
            return 0;
        });
    }

    private long someLong() {
        long number = row.nextLong() >> row.nextInt(64);
        return row.nextInt(30) == 0 ? Long.MIN_VALUE : number;
    }

    private String stepPower(int to, int a) {
        int n = row.nextInt(3) == 0 ? row.nextInt(4110) - 2055 : row.nextInt(61) - 30;
        call = "power " + to + " " + a + " " + n;
        model.power(to, a, n);
        return Checks.told(() -> desk.power(to, a, n));
    }

    private String stepPart(int a) {
        int which = row.nextInt(40) == 0 ? row.nextInt(5) - 2 : row.nextInt(2);
        int k = row.nextInt(80) - 5;
        call = "part " + a + " " + which + " " + k;
        model.part(a, which, k);
        return Checks.told(() -> desk.part(a, which, k));
    }

    private String stepType() {
        long characters = row.nextBoolean() ? row.nextLong() : Checks.packed("-12/345x".substring(row.nextInt(8)));
        int n = row.nextInt(11) - 1;
        call = "type " + characters + " " + n;
        model.type(characters, n);
        return Checks.told(() -> desk.type(characters, n));
    }

    /** Types a text that tells a fraction, or nearly does, and reads it. */
    private String stepRead(int to) {
        if (row.nextInt(3) > 0) {
            String fraction = someText();
            desk.wipe();
            Checks.typeAll(desk, fraction);
            model.text = fraction;
        }
        call = "read " + to + " of " + model.text;
        model.read(to);
        return Checks.told(() -> desk.read(to));
    }

    private String someText() {
        BigInteger common = row.nextInt(3) == 0 ? someWhole(900) : BigInteger.ONE;
        int room = common.equals(BigInteger.ONE) ? 2060 : 1160;
        String text = (row.nextBoolean() ? "-" : "") + someWhole(room).multiply(common);
        if (row.nextInt(3) > 0) {
            text += "/" + someWhole(room).multiply(common);
        }
        if (row.nextInt(10) == 0) {
            int at = row.nextInt(text.length());
            text = text.substring(0, at) + (char) (32 + row.nextInt(95)) + text.substring(at + 1);
        }
        return text.length() > 1400 ? text.substring(0, 1400) : text;
    }

    /** Whole numbers of the kinds that go wrong first: near powers of two, with limbs of only ones or zeros, any. */
    private BigInteger someWhole(int mostBits) {
        int bits = row.nextInt(4) == 0 ? mostBits : 1 + row.nextInt(mostBits);
        switch (row.nextInt(5)) {
            case 0:
                return BigInteger.ONE.shiftLeft(bits - 1).add(BigInteger.valueOf(row.nextInt(5) - 2)).abs();
            case 1:
                return limbs(31, bits);
            case 2:
                return limbs(32, bits);
            case 3:
                return fibonacci(bits);
            default:
                return new BigInteger(bits, row);
        }
    }

    private BigInteger limbs(int each, int bits) {
        BigInteger sum = BigInteger.ZERO;
        long most = (1L << each) - 1;
        long[] some = {0, 1, most, most - 1, most / 2, most / 2 + 1, row.nextLong() & most};
        for (int i = 0; i < bits; i += each) {
            sum = sum.shiftLeft(each).add(BigInteger.valueOf(some[row.nextInt(some.length)]));
        }
        return sum.mod(BigInteger.ONE.shiftLeft(bits));
    }

    /** Neighbours in Fibonacci's row need the most steps of Euclid's. */
    private BigInteger fibonacci(int bits) {
        BigInteger less = BigInteger.ONE;
        BigInteger more = BigInteger.ONE;
        while (more.bitLength() < bits) {
            BigInteger sum = less.add(more);
            less = more;
            more = sum;
        }
        return row.nextBoolean() ? less : more;
    }

    /** The document in BigInteger, as plainly as it can be said. */
    private static final class Model {
        private static final String REFUSED = "throws.IllegalArgumentException";
        private static final BigInteger EDGE = BigInteger.ONE.shiftLeft(2048);

        final BigInteger[] tops = new BigInteger[16];
        final BigInteger[] bottoms = new BigInteger[16];
        String text = "";
        int place = -1;
        String answer = "";

        Model() {
            for (int i = 0; i < 16; i++) {
                tops[i] = BigInteger.ZERO;
                bottoms[i] = BigInteger.ONE;
            }
        }

        private boolean refuses(boolean fine, int... registers) {
            boolean all = fine;
            for (int register : registers) {
                all = all && register >= 0 && register < 16;
            }
            answer = all ? "0" : REFUSED;
            return !all;
        }

        private void become(int to, BigInteger top, BigInteger bottom) {
            BigInteger divisor = top.gcd(bottom);
            divisor = bottom.signum() < 0 ? divisor.negate() : divisor;
            BigInteger newTop = top.divide(divisor);
            BigInteger newBottom = bottom.divide(divisor);
            boolean small = newTop.abs().compareTo(EDGE) < 0 && newBottom.compareTo(EDGE) < 0;
            answer = small ? "0" : "-1";
            if (small) {
                tops[to] = newTop;
                bottoms[to] = newBottom;
            }
        }

        private static BigInteger floor(BigInteger top, BigInteger bottom) {
            BigInteger[] both = top.divideAndRemainder(bottom);
            boolean down = both[1].signum() != 0 && (both[1].signum() < 0) != (bottom.signum() < 0);
            return down ? both[0].subtract(BigInteger.ONE) : both[0];
        }

        void set(int to, long top, long bottom) {
            if (!refuses(bottom != 0, to)) {
                become(to, BigInteger.valueOf(top), BigInteger.valueOf(bottom));
            }
        }

        void combine(int to, int kind, int a, int b) {
            if (refuses(kind >= 0 && kind <= 8, to, a, b)) {
                return;
            }
            BigInteger p = tops[a];
            BigInteger q = bottoms[a];
            BigInteger r = tops[b];
            BigInteger s = bottoms[b];
            BigInteger ps = p.multiply(s);
            BigInteger rq = r.multiply(q);
            BigInteger qs = q.multiply(s);
            boolean first = ps.compareTo(rq) < 0 == (kind == 4);
            if (kind == 8 && refuses(q.equals(BigInteger.ONE) && s.equals(BigInteger.ONE))) {
                return;
            }
            if ((kind == 3 || kind == 6 || kind == 7) && r.signum() == 0) {
                answer = "-2";
                return;
            }
            switch (kind) {
                case 0: become(to, ps.add(rq), qs); break;
                case 1: become(to, ps.subtract(rq), qs); break;
                case 2: become(to, p.multiply(r), qs); break;
                case 3: become(to, ps, rq); break;
                case 4:
                case 5: become(to, first ? p : r, first ? q : s); break;
                case 6: become(to, floor(ps, rq), BigInteger.ONE); break;
                case 7: become(to, ps.subtract(rq.multiply(floor(ps, rq))), qs); break;
                default: become(to, p.gcd(r), BigInteger.ONE); break;
            }
        }

        void change(int to, int kind, int a) {
            if (refuses(kind >= 0 && kind <= 6, to, a)) {
                return;
            }
            BigInteger p = tops[a];
            BigInteger q = bottoms[a];
            if (kind == 2 && p.signum() == 0) {
                answer = "-2";
                return;
            }
            switch (kind) {
                case 0: become(to, p.negate(), q); break;
                case 1: become(to, p.abs(), q); break;
                case 2: become(to, q, p); break;
                case 3: become(to, floor(p, q), BigInteger.ONE); break;
                case 4: become(to, floor(p.negate(), q).negate(), BigInteger.ONE); break;
                case 5: become(to, p, BigInteger.ONE); break;
                default: become(to, q, BigInteger.ONE); break;
            }
        }

        void power(int to, int a, int n) {
            if (refuses(n >= -2048 && n <= 2048, to, a)) {
                return;
            }
            if (n < 0 && tops[a].signum() == 0) {
                answer = "-2";
                return;
            }
            int times = Math.abs(n);
            // a size of 2^(k times) or more is too great for sure, and too dear to work out
            long least = Math.max(tops[a].abs().bitLength(), bottoms[a].bitLength()) - 1L;
            if (least * times > 2100) {
                answer = "-1";
                return;
            }
            BigInteger top = tops[a].pow(times);
            BigInteger bottom = bottoms[a].pow(times);
            become(to, n < 0 ? bottom : top, n < 0 ? top : bottom);
        }

        void order(int a, int b) {
            if (!refuses(true, a, b)) {
                answer = "" + tops[a].multiply(bottoms[b]).compareTo(tops[b].multiply(bottoms[a]));
            }
        }

        void part(int a, int which, int k) {
            if (!refuses(which == 0 || which == 1, a)) {
                BigInteger number = which == 0 ? tops[a].abs() : bottoms[a];
                answer = k < 0 ? "0" : "" + number.shiftRight(32 * k).mod(BigInteger.ONE.shiftLeft(32));
            }
        }

        void write(int a) {
            if (!refuses(true, a)) {
                text = tops[a] + (bottoms[a].equals(BigInteger.ONE) ? "" : "/" + bottoms[a]);
                answer = "" + text.length();
            }
        }

        void type(long characters, int n) {
            answer = "-1";
            if (n < 1 || n > 8 || text.length() + n > 1400) {
                return;
            }
            String typed = "";
            for (int i = 0; i < n; i++) {
                long character = characters >> 8 * i & 255;
                if (character < 32 || character > 126) {
                    return;
                }
                typed = (char) character + typed;
            }
            text += typed;
            answer = "" + text.length();
        }

        void wipe() {
            answer = "" + text.length();
            text = "";
        }

        void read(int to) {
            if (refuses(true, to)) {
                return;
            }
            if (!text.matches("-?[0-9]+(/0*[1-9][0-9]*)?")) {
                answer = "throws.IllegalStateException";
                place = goesOnUntil();
                return;
            }
            String[] both = text.split("/");
            BigInteger top = new BigInteger(both[0]);
            BigInteger bottom = both.length > 1 ? new BigInteger(both[1]) : BigInteger.ONE;
            if (top.abs().compareTo(EDGE) >= 0 || bottom.compareTo(EDGE) >= 0) {
                answer = "-1";
                return;
            }
            become(to, top, bottom);
            text = "";
        }

        /** The longest beginning that some text telling a fraction has too. */
        private int goesOnUntil() {
            int at = 0;
            while (at < text.length() && text.substring(0, at + 1).matches("-?|-?[0-9]+(/[0-9]*)?")) {
                at++;
            }
            return at;
        }
    }
}
