import java.math.BigInteger;
import java.util.ArrayList;
import java.util.List;
import java.util.Random;

/**
 * Long runs of calls on a desk and on a model of it in BigInteger, with the same answers due from both. The numbers are
 * drawn from a row that is the same in every run of the test.
 */
public final class ModelTest {
    private static final int RUNS = 600;
    /** Looking at all that a run leaves takes many desks, so only some runs end so. */
    private static final int RUNS_A_LOOK = 6;
    private static final int CALLS_OF_A_LOOK = 80;
    private static final int CALLS_OF_A_TEXT = 177;
    private static final int GREAT_BITS = 2060;
    private static final int FEW_BITS = 300;

    private final Random row;
    private final Desk desk = new Desk();
    private final List<Start.Call> made = new ArrayList<>();
    private final Model model = new Model();

    private ModelTest(int run) {
        row = new Random(run);
    }

    public static void main(String[] args) {
        int runs = args.length > 0 ? Integer.parseInt(args[0]) : RUNS;
        for (int run = 0; run < runs; run++) {
            new ModelTest(run).run(run);
        }
        Checks.end("ModelTest");
    }

    private void run(int run) {
        boolean looks = run % RUNS_A_LOOK == 0;
        int least = looks ? CALLS_OF_A_LOOK + row.nextInt(Desk.MOST_CALLS - CALLS_OF_A_LOOK) : 1;
        while (desk.left() >= least + (looks ? CALLS_OF_A_TEXT : 0)) {
            step(run);
        }
        if (looks) {
            lookAtAll(run);
        }
    }

    private void lookAtAll(int run) {
        Look look = new Look(another -> {
            for (Start.Call call : made) {
                call.on(another);
            }
        });
        String when = "run " + run + ", after " + made.size() + " steps, ";
        for (int a = 0; a < Start.REGISTERS; a++) {
            Checks.same(when + "register " + a, look.fraction(a), model.tops[a] + "/" + model.bottoms[a]);
        }
        Checks.same(when + "the text", look.text(), model.text);
        Checks.same(when + "the place", look.place(), Integer.toString(model.place));
    }

    /** The model has made the call already. */
    private void expect(int run, Start.Call call) {
        made.add(call);
        String got = call.on(desk);
        String name = "run " + run + ", step " + made.size() + ", " + desk.latest();
        Checks.same(name, got, model.answer);
    }

    private void step(int run) {
        int to = register();
        int a = register();
        int b = register();
        int kind = row.nextInt(11) - 1;
        switch (row.nextInt(16)) {
            case 0 -> stepSet(run, to);
            case 1, 2 -> stepRead(run, to);
            case 3, 4, 5, 6, 7 -> {
                model.combine(to, kind, a, b);
                expect(run, another -> another.combine(to, kind, a, b));
            }
            case 8 -> {
                model.change(to, kind, a);
                expect(run, another -> another.change(to, kind, a));
            }
            case 9 -> stepPower(run, to, a);
            case 10 -> {
                model.order(a, b);
                expect(run, another -> another.order(a, b));
            }
            case 11 -> {
                model.sign(a);
                expect(run, another -> another.sign(a));
            }
            case 12 -> stepPart(run, a);
            case 13 -> {
                model.write(a);
                expect(run, another -> another.write(a));
            }
            case 14 -> stepType(run);
            default -> stepText(run);
        }
    }

    private int register() {
        return row.nextInt(60) == 0 ? row.nextInt(40) - 12 : row.nextInt(Start.REGISTERS);
    }

    private void stepSet(int run, int to) {
        long top = someLong();
        long bottom = someLong();
        model.set(to, top, bottom);
        expect(run, another -> another.set(to, top, bottom));
    }

    private long someLong() {
        long number = row.nextLong() >> row.nextInt(64);
        return row.nextInt(30) == 0 ? Long.MIN_VALUE : number;
    }

    private void stepPower(int run, int to, int a) {
        int n = row.nextInt(3) == 0 ? row.nextInt(4110) - 2055 : row.nextInt(61) - 30;
        model.power(to, a, n);
        expect(run, another -> another.power(to, a, n));
    }

    private void stepPart(int run, int a) {
        int which = row.nextInt(40) == 0 ? row.nextInt(5) - 2 : row.nextInt(2);
        int k = row.nextInt(80) - 5;
        if (row.nextInt(3) == 0) {
            model.places(a, which);
            expect(run, another -> another.places(a, which));
        } else {
            model.part(a, which, k);
            expect(run, another -> another.part(a, which, k));
        }
    }

    private void stepType(int run) {
        long characters = row.nextBoolean() ? row.nextLong() : Desk.packed("-12/345x".substring(row.nextInt(8)));
        int n = row.nextInt(11) - 1;
        model.type(characters, n);
        expect(run, another -> another.type(characters, n));
    }

    private void stepText(int run) {
        int i = row.nextInt(model.text.length() + 5) - 2;
        switch (row.nextInt(3)) {
            case 0 -> {
                model.wipe();
                expect(run, another -> another.wipe());
            }
            case 1 -> {
                model.character(i);
                expect(run, another -> another.character(i));
            }
            default -> {
                model.tellPlace();
                expect(run, another -> another.place());
            }
        }
    }

    /** Types a text that tells a fraction, or nearly does, if there are calls enough for it; and reads what stands. */
    private void stepRead(int run, int to) {
        if (desk.left() >= CALLS_OF_A_TEXT && row.nextInt(3) > 0) {
            String fraction = someText();
            model.wipe();
            expect(run, another -> another.wipe());
            model.text = fraction;
            model.answer = "";
            expect(run, another -> {
                another.typeAll(fraction);
                return "";
            });
        }
        model.read(to);
        expect(run, another -> another.read(to));
    }

    private String someText() {
        boolean great = row.nextInt(4) == 0;
        BigInteger common = row.nextInt(3) == 0 ? someWhole(great ? 900 : FEW_BITS) : BigInteger.ONE;
        int room = great && common.equals(BigInteger.ONE) ? GREAT_BITS : great ? GREAT_BITS - 900 : FEW_BITS;
        String text = (row.nextBoolean() ? "-" : "") + someWhole(room).multiply(common);
        if (row.nextInt(3) > 0) {
            text += "/" + someWhole(room).multiply(common);
        }
        if (row.nextInt(10) == 0) {
            int at = row.nextInt(text.length());
            text = text.substring(0, at) + (char) (32 + row.nextInt(95)) + text.substring(at + 1);
        }
        return text.length() > 1400 ? text.substring(0, 1400) : text;
    }

    /** Whole numbers of the kinds that go wrong first: near powers of two, with limbs of only ones or zeros, any. */
    private BigInteger someWhole(int mostBits) {
        int bits = row.nextInt(4) == 0 ? mostBits : 1 + row.nextInt(mostBits);
        switch (row.nextInt(5)) {
            case 0:
                return BigInteger.ONE.shiftLeft(bits - 1).add(BigInteger.valueOf(row.nextInt(5) - 2)).abs();
            case 1:
                return limbs(31, bits);
            case 2:
                return limbs(32, bits);
            case 3:
                return fibonacci(bits);
            default:
                return new BigInteger(bits, row);
        }
    }

    private BigInteger limbs(int each, int bits) {
        BigInteger sum = BigInteger.ZERO;
        long most = (1L << each) - 1;
        long[] some = {0, 1, most, most - 1, most / 2, most / 2 + 1, row.nextLong() & most};
        for (int i = 0; i < bits; i += each) {
            sum = sum.shiftLeft(each).add(BigInteger.valueOf(some[row.nextInt(some.length)]));
        }
        return sum.mod(BigInteger.ONE.shiftLeft(bits));
    }

    /** Neighbours in Fibonacci's row need the most steps of Euclid's. */
    private BigInteger fibonacci(int bits) {
        BigInteger less = BigInteger.ONE;
        BigInteger more = BigInteger.ONE;
        while (more.bitLength() < bits) {
            BigInteger sum = less.add(more);
            less = more;
            more = sum;
        }
        return row.nextBoolean() ? less : more;
    }

    /** The document in BigInteger, as plainly as it can be said. */
    private static final class Model {
        private static final String REFUSED = "throws.IllegalArgumentException";
        private static final BigInteger EDGE = BigInteger.ONE.shiftLeft(2048);

        final BigInteger[] tops = new BigInteger[16];
        final BigInteger[] bottoms = new BigInteger[16];
        String text = "";
        int place = -1;
        String answer = "";

        Model() {
            for (int i = 0; i < 16; i++) {
                tops[i] = BigInteger.ZERO;
                bottoms[i] = BigInteger.ONE;
            }
        }

        private boolean refuses(boolean fine, int... registers) {
            boolean all = fine;
            for (int register : registers) {
                all = all && register >= 0 && register < 16;
            }
            answer = all ? "0" : REFUSED;
            return !all;
        }

        private void become(int to, BigInteger top, BigInteger bottom) {
            BigInteger divisor = top.gcd(bottom);
            divisor = bottom.signum() < 0 ? divisor.negate() : divisor;
            BigInteger newTop = top.divide(divisor);
            BigInteger newBottom = bottom.divide(divisor);
            boolean small = newTop.abs().compareTo(EDGE) < 0 && newBottom.compareTo(EDGE) < 0;
            answer = small ? "0" : "-1";
            if (small) {
                tops[to] = newTop;
                bottoms[to] = newBottom;
            }
        }

        private static BigInteger floor(BigInteger top, BigInteger bottom) {
            BigInteger[] both = top.divideAndRemainder(bottom);
            boolean down = both[1].signum() != 0 && (both[1].signum() < 0) != (bottom.signum() < 0);
            return down ? both[0].subtract(BigInteger.ONE) : both[0];
        }

        void set(int to, long top, long bottom) {
            if (!refuses(bottom != 0, to)) {
                become(to, BigInteger.valueOf(top), BigInteger.valueOf(bottom));
            }
        }

        void combine(int to, int kind, int a, int b) {
            if (refuses(kind >= 0 && kind <= 8, to, a, b)) {
                return;
            }
            BigInteger p = tops[a];
            BigInteger q = bottoms[a];
            BigInteger r = tops[b];
            BigInteger s = bottoms[b];
            BigInteger ps = p.multiply(s);
            BigInteger rq = r.multiply(q);
            BigInteger qs = q.multiply(s);
            boolean first = ps.compareTo(rq) < 0 == (kind == 4);
            if (kind == 8 && refuses(q.equals(BigInteger.ONE) && s.equals(BigInteger.ONE))) {
                return;
            }
            if ((kind == 3 || kind == 6 || kind == 7) && r.signum() == 0) {
                answer = "-2";
                return;
            }
            switch (kind) {
                case 0: become(to, ps.add(rq), qs); break;
                case 1: become(to, ps.subtract(rq), qs); break;
                case 2: become(to, p.multiply(r), qs); break;
                case 3: become(to, ps, rq); break;
                case 4:
                case 5: become(to, first ? p : r, first ? q : s); break;
                case 6: become(to, floor(ps, rq), BigInteger.ONE); break;
                case 7: become(to, ps.subtract(rq.multiply(floor(ps, rq))), qs); break;
                default: become(to, p.gcd(r), BigInteger.ONE); break;
            }
        }

        void change(int to, int kind, int a) {
            if (refuses(kind >= 0 && kind <= 6, to, a)) {
                return;
            }
            BigInteger p = tops[a];
            BigInteger q = bottoms[a];
            if (kind == 2 && p.signum() == 0) {
                answer = "-2";
                return;
            }
            switch (kind) {
                case 0: become(to, p.negate(), q); break;
                case 1: become(to, p.abs(), q); break;
                case 2: become(to, q, p); break;
                case 3: become(to, floor(p, q), BigInteger.ONE); break;
                case 4: become(to, floor(p.negate(), q).negate(), BigInteger.ONE); break;
                case 5: become(to, p, BigInteger.ONE); break;
                default: become(to, q, BigInteger.ONE); break;
            }
        }

        void power(int to, int a, int n) {
            if (refuses(n >= -2048 && n <= 2048, to, a)) {
                return;
            }
            if (n < 0 && tops[a].signum() == 0) {
                answer = "-2";
                return;
            }
            int times = Math.abs(n);
            // a size of 2^(k times) or more is too great for sure, and too dear to work out
            long least = Math.max(tops[a].abs().bitLength(), bottoms[a].bitLength()) - 1L;
            if (least * times > 2100) {
                answer = "-1";
                return;
            }
            BigInteger top = tops[a].pow(times);
            BigInteger bottom = bottoms[a].pow(times);
            become(to, n < 0 ? bottom : top, n < 0 ? top : bottom);
        }

        void order(int a, int b) {
            if (!refuses(true, a, b)) {
                answer = "" + tops[a].multiply(bottoms[b]).compareTo(tops[b].multiply(bottoms[a]));
            }
        }

        void sign(int a) {
            if (!refuses(true, a)) {
                answer = "" + tops[a].signum();
            }
        }

        void places(int a, int which) {
            if (!refuses(which == 0 || which == 1, a)) {
                answer = "" + (which == 0 ? tops[a].abs() : bottoms[a]).bitLength();
            }
        }

        void part(int a, int which, int k) {
            if (!refuses(which == 0 || which == 1, a)) {
                BigInteger number = which == 0 ? tops[a].abs() : bottoms[a];
                answer = k < 0 ? "0" : "" + number.shiftRight(32 * k).mod(BigInteger.ONE.shiftLeft(32));
            }
        }

        void write(int a) {
            if (!refuses(true, a)) {
                text = tops[a] + (bottoms[a].equals(BigInteger.ONE) ? "" : "/" + bottoms[a]);
                answer = "" + text.length();
            }
        }

        void type(long characters, int n) {
            answer = "-1";
            if (n < 1 || n > 8 || text.length() + n > 1400) {
                return;
            }
            String typed = "";
            for (int i = 0; i < n; i++) {
                long character = characters >> 8 * i & 255;
                if (character < 32 || character > 126) {
                    return;
                }
                typed = (char) character + typed;
            }
            text += typed;
            answer = "" + text.length();
        }

        void wipe() {
            answer = "" + text.length();
            text = "";
        }

        void character(int i) {
            answer = i < 0 || i >= text.length() ? "-1" : "" + (int) text.charAt(i);
        }

        void tellPlace() {
            answer = "" + place;
        }

        void read(int to) {
            if (refuses(true, to)) {
                return;
            }
            if (!text.matches("-?[0-9]+(/0*[1-9][0-9]*)?")) {
                answer = "throws.IllegalStateException";
                place = goesOnUntil();
                return;
            }
            String[] both = text.split("/");
            BigInteger top = new BigInteger(both[0]);
            BigInteger bottom = both.length > 1 ? new BigInteger(both[1]) : BigInteger.ONE;
            if (top.abs().compareTo(EDGE) >= 0 || bottom.compareTo(EDGE) >= 0) {
                answer = "-1";
                return;
            }
            become(to, top, bottom);
            text = "";
        }

        /** The longest beginning that some text telling a fraction has too. */
        private int goesOnUntil() {
            int at = 0;
            while (at < text.length() && text.substring(0, at + 1).matches("-?|-?[0-9]+(/[0-9]*)?")) {
                at++;
            }
            return at;
        }
    }
}
