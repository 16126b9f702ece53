import java.util.Random;

/**
 * "A call that throws changes nothing", nor does one that is refused: of two fairs that are told the same, one is asked for
 * all that must be refused behind each call, and both must look and answer the same to the end.
 */
public final class RefusedTest {
    private static final Checks C = new Checks("RefusedTest");
    private static final int LEAST = Integer.MIN_VALUE;
    private static final int MOST = Integer.MAX_VALUE;
    private static final String[] LAWS = {
        "days 0 9;days 3 2;warrant 0 2;open 2;toll 90;", "open 1;days 1 30;", "toll 999;days 2 3;warrant 2 30;", "toll 5;toll",
        "days 7 1;", "warrant 1 1", "",
    };

    private final Random random;
    private final HorseFair quiet = new HorseFair();
    private final HorseFair pestered = new HorseFair();
    private final int people;
    private final int horses;

    private RefusedTest(long seed) {
        random = new Random(seed);
        people = 2 + random.nextInt(seed % 3 == 0 ? 15 : 3);
        horses = 1 + random.nextInt(seed % 3 == 0 ? 40 : 2);
    }

    public static void main(String[] args) {
        for (long seed = 1; seed <= 60; seed++) {
            new RefusedTest(seed).run();
        }
        fullFair();
        C.close();
    }

    private void run() {
        pester(pestered);
        for (int i = 0; i < 250; i++) {
            long seed = random.nextLong();
            String want = step(quiet, new Random(seed));
            C.same("the same call", step(pestered, new Random(seed)), want);
            pester(pestered);
            C.same("the state", Picture.of(pestered), Picture.of(quiet));
        }
    }

    private String step(HorseFair x, Random r) {
        int h = r.nextInt(horses);
        int p = r.nextInt(people);
        switch (r.nextInt(16)) {
            case 0: return "person " + (x.count(1) < people ? x.person(r.nextInt(300)) : 0);
            case 1: return "horse " + (x.count(2) < horses ? x.horse(p) : 0);
            case 2: return "coin " + x.coin(p, 1 + r.nextInt(40));
            case 3: case 4: case 5: case 6: case 7: return sell(x, h, p, r);
            case 8: return "find " + x.find(h, r.nextInt(6), r.nextInt(x.count(0) + 1));
            case 9: return "back " + x.back(h);
            case 10: return "trace " + x.trace(h);
            case 11: return "steal " + x.steal(h, p);
            case 12: return "claim " + x.claim(h);
            case 13: return "next " + x.next();
            case 14: return "law " + x.law(r.nextInt(3)) + lay(x, LAWS[r.nextInt(LAWS.length)]);
            default: return "feed " + x.feed(r.nextInt(), 0x3B3B3B3B, 0, 0, 0) + x.end(r.nextInt(21));
        }
    }

    private static String sell(HorseFair x, int h, int p, Random r) {
        return "sell " + x.sell(h, p, r.nextInt(90), r.nextInt(64), r.nextInt(3));
    }

    private static String lay(HorseFair x, String text) {
        x.end(0);
        Checks.lay(x, text);
        return text;
    }

    private static void refused(boolean holds) {
        C.due("a call that must be refused", holds, true);
    }

    private static void pester(HorseFair x) {
        pesterTape(x);
        pesterPeople(x);
        pesterHorses(x);
        for (int h = 0; h < x.count(2); h++) {
            pesterHorse(x, h);
        }
        pesterAnswers(x);
    }

    private static void pesterTape(HorseFair x) {
        int bytes = x.count(6);
        refused(bytes <= 300 || x.feed(1, 2, 3, 4, 5) == -1);
        refused(!x.end(-1) && !x.end(bytes + 1) && !x.end(LEAST) && !x.end(MOST));
        for (int l : new int[] {LEAST, -1, 3, MOST}) {
            C.outOfBounds("law", () -> x.law(l));
            C.outOfBounds("rule", () -> x.rule(l, 0));
            C.outOfBounds("rule", () -> x.rule(l, 14));
        }
        refused(x.rule(0, -1) == -1 && x.rule(2, 15) == -1 && x.count(-1) == -1 && x.count(8) == -1);
    }

    private static void pesterPeople(HorseFair x) {
        int many = x.count(1);
        refused(x.person(-1) == -1 && x.person(1000001) == -1 && x.person(LEAST) == -1 && x.person(MOST) == -1);
        refused(many < 16 || x.person(0) == -1 && x.person(5) == -1);
        refused(x.coin(-1, 1) == -1 && x.coin(many, 1) == -1 && x.coin(LEAST, 1) == -1 && x.coin(MOST, 1) == -1);
        refused(x.coin(0, 0) == -1 && x.coin(0, -1) == -1 && x.coin(0, 1000001) == -1 && x.coin(0, MOST) == -1);
        refused(x.horse(-1) == -1 && x.horse(many) == -1 && x.horse(LEAST) == -1 && x.horse(MOST) == -1);
        refused(x.count(2) < 40 || x.horse(0) == -1);
        refused(x.count(0) < 999 || x.next() == -1);
    }

    private static void pesterHorses(HorseFair x) {
        for (int h : new int[] {LEAST, -1, x.count(2), MOST}) {
            refused(x.sell(h, 0, 0, 0, 0) == -2);
            refused(!x.find(h, 0, 0) && !x.steal(h, 0));
            refused(x.back(h) == -1 && x.trace(h) == -1 && x.claim(h) == -1);
        }
    }

    private static void pesterHorse(HorseFair x, int h) {
        int holder = x.about(h, 0);
        int day = x.count(0);
        int many = x.count(1);
        refused(x.sell(h, -1, 0, 0, 0) == -2 && x.sell(h, many, 0, 0, 0) == -2 && x.sell(h, holder, 0, 0, 0) == -2);
        refused(!x.steal(h, -1) && !x.steal(h, many) && !x.steal(h, holder));
        for (int p = 0; p < many && p < 3; p++) {
            if (p != holder) {
                refused(x.sell(h, p, 0, 0, -1) == -3 && x.sell(h, p, 0, 0, 3) == -3);
                refused(x.sell(h, p, -1, 0, 0) == -3 && x.sell(h, p, 100001, 0, 0) == -3);
                refused(x.sell(h, p, 0, -1, 0) == -3 && x.sell(h, p, 0, 64, 0) == -3);
                refused(x.purse(p, 0) >= 100000 || x.sell(h, p, x.purse(p, 0) + 1, 63, 2) == -4);
                refused(x.count(3) < 80 || x.sell(h, p, 0, 0, 0) == -5);
            }
        }
        refused(!x.find(h, -1, 0) && !x.find(h, 6, 0) && !x.find(h, 0, -1) && !x.find(h, 0, day + 1));
        for (int f = 0; f < 6; f++) {
            refused((x.about(h, 3) >> f & 1) == 0 || !x.find(h, f, day) && !x.find(h, f, 0));
        }
        int latest = x.about(h, 2);
        boolean cannotBeBack = latest == -1 || x.about(h, 3) == 0 || x.sale(latest, 2) != holder;
        refused(!cannotBeBack || x.back(h) == -1 && x.trace(h) == 0);
        refused(holder != x.about(h, 1) || x.claim(h) == -1);
    }

    private static void pesterAnswers(HorseFair x) {
        for (int wrong : new int[] {LEAST, -1, 400, MOST}) {
            C.noSuch("about", () -> x.about(0, wrong));
            C.noSuch("about", () -> x.about(wrong, 0));
            C.noSuch("fault", () -> x.fault(0, wrong, 0));
            C.noSuch("fault", () -> x.fault(0, 0, wrong));
            C.noSuch("fault", () -> x.fault(wrong, 0, 0));
            C.noSuch("sale", () -> x.sale(0, wrong));
            C.noSuch("sale", () -> x.sale(wrong, 0));
            C.noSuch("purse", () -> x.purse(0, wrong));
            C.noSuch("purse", () -> x.purse(wrong, 0));
            C.noSuch("debt", () -> x.debt(0, wrong));
            C.noSuch("debt", () -> x.debt(wrong, 0));
            C.noSuch("hand", () -> x.hand(wrong, 0, 0));
            C.noSuch("hand", () -> x.hand(0, wrong, 0));
            C.noSuch("hand", () -> x.hand(0, 0, wrong));
        }
    }

    /** All that can be full is full: people, horses, sales, hands, days and the tape. */
    private static void fullFair() {
        HorseFair x = new HorseFair();
        for (int p = 0; p < 16; p++) {
            x.person(1000);
        }
        for (int h = 0; h < 40; h++) {
            x.horse(h % 16);
            x.find(h, h % 6, 0);
        }
        for (int k = 0; k < 80; k++) {
            C.due("sell", x.sell(k % 40, (x.about(k % 40, 0) + 1) % 16, k, 0, 0), k);
        }
        while (x.count(7) < 400) {
            x.steal(0, (x.about(0, 0) + 1) % 16);
        }
        while (x.next() != -1) {
            C.due("day", x.count(0) <= 999, true);
        }
        for (int n = 20; n <= 320; n += 20) {
            C.due("feed", x.feed(0, 0, 0, 0, 0), n);
        }
        C.dueAll("count", x::count, 999, 16, 40, 80, 80, 0, 320, 400);
        String before = Picture.of(x);
        pester(x);
        C.same("a full fair", Picture.of(x), before);
    }
}
