import java.nio.charset.StandardCharsets;
import java.util.ArrayList;
import java.util.List;
import java.util.NoSuchElementException;
import java.util.Random;

/** Long runs of calls, the same ones always, on HorseFair and on PlainFair: each answer must be the same. */
public final class FuzzTest {
    private static final int RUNS = 4000;
    private static final int CALLS = 512;
    private static final int LAW_RUNS = 60000;
    private static final int POOR_RUNS = 600;
    private static final int[] EDGES = {
        -1, Integer.MIN_VALUE, Integer.MAX_VALUE, 6, 16, 40, 64, 80, 300, 301, 320, 321, 400, 1000, 100001, 1000001,
    };
    private static final String[] PARTS = {
        "days", "warrant", "toll", "open", "days 0 3;", "warrant 1 9;", "toll 50;", "open 2;", "days 3 1;", ";", ";", " ",
        "\n", "0", "1", "5", "6", "12", "999", "1000", "05", "x", "toll5", "T", ".", "\t", "        ",
    };

    private final Random random;
    private final HorseFair fair = new HorseFair();
    private final PlainFair plain = new PlainFair();
    private final List<String> calls = new ArrayList<>();
    private final int people;
    private final int horses;
    private final int dear;
    private boolean same = true;

    private FuzzTest(long seed) {
        random = new Random(seed);
        people = 1 + random.nextInt(random.nextInt(3) == 0 ? 16 : 5);
        horses = 1 + random.nextInt(random.nextInt(3) == 0 ? 40 : 3);
        dear = random.nextInt(4) == 0 ? 3000 : 100;
    }

    public static void main(String[] args) {
        long first = args.length > 0 ? Long.parseLong(args[0]) : 1;
        int wrong = 0;
        for (long seed = first; seed < first + RUNS; seed++) {
            wrong += new FuzzTest(seed).run() ? 0 : 1;
        }
        for (long seed = first; seed < first + LAW_RUNS / 20; seed++) {
            wrong += new FuzzTest(seed).lawRun() ? 0 : 1;
        }
        for (long seed = first; seed < first + POOR_RUNS; seed++) {
            wrong += new FuzzTest(seed).poorRun() ? 0 : 1;
        }
        System.out.println("FuzzTest: " + RUNS + " runs of " + CALLS + " calls, " + LAW_RUNS + " laws, " + POOR_RUNS
                + " runs of debts, " + wrong + " wrong");
        if (wrong != 0) {
            System.exit(1);
        }
    }

    private interface Call {
        int answer();
    }

    private static String told(Call call) {
        try {
            return String.valueOf(call.answer());
        } catch (RuntimeException e) {
            Class<?> kind = e.getClass();
            boolean document = kind == NoSuchElementException.class || kind == IndexOutOfBoundsException.class;
            return document ? "throws." + kind.getSimpleName() : "the machine throws " + e;
        }
    }

    private void compare(String name, Call ours, Call theirs) {
        String got = told(ours);
        String want = told(theirs);
        calls.add(name + " -> " + got);
        if (same && !got.equals(want)) {
            same = false;
            System.out.println("FuzzTest: due is " + want + " behind these calls:");
            calls.forEach(System.out::println);
        }
    }

    private int pick(int below) {
        return random.nextInt(60) == 0 ? EDGES[random.nextInt(EDGES.length)] : random.nextInt(below);
    }

    private boolean run() {
        for (int p = 0; p < people && p < 3; p++) {
            person();
        }
        horse();
        for (int i = 0; i < CALLS && same; i++) {
            act();
        }
        return same && sameState();
    }

    private boolean lawRun() {
        for (int i = 0; i < 20 && same; i++) {
            newLaw();
        }
        return same;
    }

    /** The toll takes nearly all, so those whose sales are undone owe much, and a few pence go round among them. */
    private boolean poorRun() {
        layLaw("toll 999;".getBytes(StandardCharsets.ISO_8859_1));
        compare("law(0)", () -> fair.law(0), () -> plain.law(0));
        int many = 2 + random.nextInt(random.nextInt(3) == 0 ? 15 : 4);
        for (int p = 0; p < many; p++) {
            compare("person(0)", () -> fair.person(0), () -> plain.person(0));
        }
        for (int n = 0; n < 40; n++) {
            int h = n;
            int p = random.nextInt(many);
            compare("horse(" + p + ")", () -> fair.horse(p), () -> plain.horse(p));
            compare("find(" + h + ", 0, 0)", () -> fair.find(h, 0, 0) ? 1 : 0, () -> plain.find(h, 0, 0) ? 1 : 0);
        }
        int sales = random.nextInt(5) == 0 ? 80 : 2 + random.nextInt(79);
        for (int k = 0; k < sales; k++) {
            int h = random.nextInt(40);
            poorSale(h, (fair.about(h, 0) + 1 + random.nextInt(many - 1)) % many);
        }
        for (int n = 0; n < 40; n++) {
            int h = n;
            compare("trace(" + h + ")", () -> fair.trace(h), () -> plain.trace(h));
        }
        for (int i = 0; i < 40 && same; i++) {
            int p = random.nextInt(many);
            int pence = 1 + random.nextInt(random.nextInt(4) == 0 ? 500 : 3);
            compare("coin(" + p + ", " + pence + ")", () -> fair.coin(p, pence), () -> plain.coin(p, pence));
        }
        return same && sameState();
    }

    private void poorSale(int h, int p) {
        int pence = 1 + random.nextInt(2000);
        compare("coin(" + p + ", " + pence + ")", () -> fair.coin(p, pence), () -> plain.coin(p, pence));
        int price = fair.purse(p, 0);
        compare("sell(" + h + ", " + p + ", " + price + ", 0, 0)", () -> fair.sell(h, p, price, 0, 0),
                () -> plain.sell(h, p, price, 0, 0));
    }

    private void act() {
        switch (random.nextInt(26)) {
            case 0: person(); break;
            case 1: coin(); break;
            case 2: horse(); break;
            case 3: case 4: case 5: case 6: case 7: case 8: sell(); break;
            case 9: case 10: find(); break;
            case 11: case 12: case 13: back(); break;
            case 14: trace(); break;
            case 15: case 16: case 17: steal(); break;
            case 18: claim(); break;
            case 19: case 20: compare("next()", fair::next, plain::next); break;
            case 21: newLaw(); break;
            case 22: tape(); break;
            default: ask(); break;
        }
    }

    private void person() {
        int pence = random.nextInt(9) == 0 ? pick(1000001) : random.nextInt(dear * 2);
        compare("person(" + pence + ")", () -> fair.person(pence), () -> plain.person(pence));
    }

    private void coin() {
        int p = pick(people);
        int pence = random.nextInt(9) == 0 ? pick(1000001) : random.nextInt(dear);
        compare("coin(" + p + ", " + pence + ")", () -> fair.coin(p, pence), () -> plain.coin(p, pence));
    }

    private void horse() {
        int p = pick(people);
        if (fair.count(2) < horses) {
            compare("horse(" + p + ")", () -> fair.horse(p), () -> plain.horse(p));
        }
    }

    private void sell() {
        int h = pick(horses);
        int buyer = pick(people);
        int price = random.nextInt(3) == 0 && buyer >= 0 && buyer < fair.count(1)
                ? Math.min(100000, fair.purse(buyer, 0)) : pick(dear);
        int warrants = pick(64);
        int land = pick(3);
        compare("sell(" + h + ", " + buyer + ", " + price + ", " + warrants + ", " + land + ")",
                () -> fair.sell(h, buyer, price, warrants, land), () -> plain.sell(h, buyer, price, warrants, land));
    }

    private void find() {
        int h = pick(horses);
        int f = pick(6);
        int since = pick(fair.count(0) + 2);
        compare("find(" + h + ", " + f + ", " + since + ")",
                () -> fair.find(h, f, since) ? 1 : 0, () -> plain.find(h, f, since) ? 1 : 0);
    }

    private void back() {
        int h = pick(horses);
        compare("back(" + h + ")", () -> fair.back(h), () -> plain.back(h));
    }

    private void trace() {
        int h = pick(horses);
        compare("trace(" + h + ")", () -> fair.trace(h), () -> plain.trace(h));
    }

    private void steal() {
        int h = pick(horses);
        int p = pick(people);
        compare("steal(" + h + ", " + p + ")", () -> fair.steal(h, p) ? 1 : 0, () -> plain.steal(h, p) ? 1 : 0);
    }

    private void claim() {
        int h = pick(horses);
        compare("claim(" + h + ")", () -> fair.claim(h), () -> plain.claim(h));
    }

    private void newLaw() {
        boolean good = random.nextInt(2) == 0;
        byte[] text = (good ? goodText() : anyText()).getBytes(StandardCharsets.ISO_8859_1);
        layLaw(text);
        int l = pick(3);
        compare("law(" + l + ")", () -> fair.law(l), () -> plain.law(l));
        compare("wrong()", fair::wrong, plain::wrong);
    }

    private void layLaw(byte[] text) {
        int length = Math.min(text.length, 320);
        compare("end(0)", () -> fair.end(0) ? 1 : 0, () -> plain.end(0) ? 1 : 0);
        for (int i = 0; i < length; i += 20) {
            feed(text, i);
        }
        compare("end(" + length + ")", () -> fair.end(length) ? 1 : 0, () -> plain.end(length) ? 1 : 0);
    }

    private void feed(byte[] text, int from) {
        int[] w = new int[5];
        for (int i = 0; i < 20; i++) {
            int sign = from + i < text.length ? text[from + i] & 255 : 0;
            w[i / 4] |= sign << 24 - i % 4 * 8;
        }
        compare("feed(" + w[0] + ", " + w[1] + ", " + w[2] + ", " + w[3] + ", " + w[4] + ")",
                () -> fair.feed(w[0], w[1], w[2], w[3], w[4]), () -> plain.feed(w[0], w[1], w[2], w[3], w[4]));
    }

    private String goodText() {
        StringBuilder text = new StringBuilder();
        for (int f = 0; f < 6; f++) {
            if (random.nextInt(3) > 0) {
                text.append("days ").append(f).append(' ').append(random.nextInt(30)).append(';');
            }
            if (random.nextInt(3) > 0) {
                text.append(" warrant ").append(f).append(' ').append(random.nextInt(60)).append(";\n");
            }
        }
        if (random.nextInt(2) > 0) {
            text.append("open").append(' ').append(random.nextInt(6)).append(';');
        }
        if (random.nextInt(2) > 0) {
            text.append("toll").append(' ').append(random.nextInt(random.nextInt(2) == 0 ? 1000 : 90)).append(';');
        }
        return text.toString();
    }

    private String anyText() {
        StringBuilder text = new StringBuilder();
        if (random.nextInt(3) == 0) {
            text.append(goodText());
            while (text.length() < 280 + random.nextInt(25)) {
                text.append(' ');
            }
        }
        int parts = random.nextInt(14);
        for (int i = 0; i < parts; i++) {
            text.append(PARTS[random.nextInt(PARTS.length)]);
            text.append(random.nextInt(3) == 0 ? "" : " ");
        }
        if (random.nextInt(4) == 0 && text.length() > 0) {
            text.setCharAt(random.nextInt(text.length()), (char) random.nextInt(256));
        }
        return text.toString();
    }

    private void tape() {
        if (random.nextInt(2) == 0) {
            int n = pick(330);
            compare("end(" + n + ")", () -> fair.end(n) ? 1 : 0, () -> plain.end(n) ? 1 : 0);
        } else {
            feed(anyText().getBytes(StandardCharsets.ISO_8859_1), 0);
        }
    }

    private void ask() {
        int a = pick(random.nextInt(2) == 0 ? 4 : 40);
        int b = pick(9);
        int c = pick(4);
        switch (random.nextInt(8)) {
            case 0: compare("about(" + a + ", " + b + ")", () -> fair.about(a, b), () -> plain.about(a, b)); break;
            case 1: compare("fault(" + a + ", " + b + ", " + c + ")", () -> fair.fault(a, b, c), () -> plain.fault(a, b, c));
                break;
            case 2: compare("sale(" + a + ", " + b + ")", () -> fair.sale(a, b), () -> plain.sale(a, b)); break;
            case 3: compare("purse(" + a + ", " + b + ")", () -> fair.purse(a, b), () -> plain.purse(a, b)); break;
            case 4: compare("debt(" + a + ", " + b + ")", () -> fair.debt(a, b), () -> plain.debt(a, b)); break;
            case 5: compare("hand(" + a + ", " + b + ", " + c + ")", () -> fair.hand(a, b, c), () -> plain.hand(a, b, c));
                break;
            case 6: compare("rule(" + c + ", " + a + ")", () -> fair.rule(c, a), () -> plain.rule(c, a)); break;
            default: compare("count(" + b + ")", () -> fair.count(b), () -> plain.count(b)); break;
        }
    }

    private boolean sameState() {
        for (int n = 0; n < 80 && same; n++) {
            int k = n;
            for (int w = 0; w < 9; w++) {
                int what = w;
                compare("about(" + k + ", " + what + ")", () -> fair.about(k, what), () -> plain.about(k, what));
                compare("sale(" + k + ", " + what + ")", () -> fair.sale(k, what), () -> plain.sale(k, what));
                compare("purse(" + k + ", " + what + ")", () -> fair.purse(k, what), () -> plain.purse(k, what));
                compare("debt(" + k + ", " + what + ")", () -> fair.debt(k, what), () -> plain.debt(k, what));
                compare("hand(0, " + k + ", " + what + ")", () -> fair.hand(0, k, what), () -> plain.hand(0, k, what));
                compare("rule(" + what % 3 + ", " + k + ")", () -> fair.rule(what % 3, k), () -> plain.rule(what % 3, k));
            }
        }
        return same;
    }
}
