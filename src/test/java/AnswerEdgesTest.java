import java.util.function.IntUnaryOperator;

/** Promises 17 to 23: the first and last that can be asked for, and what is just beyond. */
public final class AnswerEdgesTest {
    private static final Checks C = new Checks("AnswerEdgesTest");
    private static final int LEAST = Integer.MIN_VALUE;
    private static final int MOST = Integer.MAX_VALUE;

    public static void main(String[] args) {
        HorseFair x = busyFair();
        askAbout(x);
        askFault(x);
        askSale(x);
        askPurse(x);
        askDebt(x);
        askHand(x);
        askCount(x);
        allSalesAndDebts();
        handsUpTo400();
        handsOfOthersBehind400();
        everyWayBehind400();
        firstHandFromTheDayOnWhichItCame();
        C.close();
    }

    /** Three people, two horses, three sales (one undone), one debt, seven hands, day 2, one byte. */
    private static HorseFair busyFair() {
        HorseFair x = new HorseFair();
        x.person(0);
        x.person(70);
        x.person(0);
        x.horse(0);
        x.next();
        x.horse(2);
        x.find(0, 5, 1);
        x.sell(0, 1, 70, 33, 1);
        x.sell(1, 0, 40, 0, 2);
        x.next();
        x.find(0, 0, 0);
        x.sell(1, 2, 0, 1, 0);
        Checks.law(x, 1, "warrant 5 1;");
        x.back(0);
        x.steal(1, 1);
        x.feed(0, 0, 0, 0, 0);
        x.end(1);
        return x;
    }

    private static void whats(HorseFair x, String call, int many, IntUnaryOperator ask) {
        for (int what : new int[] {LEAST, -2, -1, many, many + 1, 64, MOST}) {
            C.refusedNoSuch(x, call + " what " + what, () -> ask.applyAsInt(what));
        }
    }

    private static void numbers(HorseFair x, String call, int many, IntUnaryOperator ask) {
        for (int number : new int[] {LEAST, -2, -1, many, many + 1, 400, MOST}) {
            C.refusedNoSuch(x, call + " of " + number, () -> ask.applyAsInt(number));
        }
    }

    /** "NoSuchElementException: no such one, or another what." */
    private static void askAbout(HorseFair x) {
        C.dueAll("about(0)", w -> x.about(0, w), 0, 0, -1, 33, 3);
        C.dueAll("about(1)", w -> x.about(1, w), 1, 2, 2, 0, 4);
        whats(x, "about", 5, w -> x.about(0, w));
        numbers(x, "about", 2, h -> x.about(h, 0));
        numbers(x, "about", 2, h -> x.about(h, 4));
    }

    /** "NoSuchElementException: no such ones, or another what." */
    private static void askFault(HorseFair x) {
        C.dueAll("fault(0, 0)", w -> x.fault(0, 0, w), 2, 0);
        C.dueAll("fault(0, 5)", w -> x.fault(0, 5, w), 1, 1);
        C.dueAll("fault(0, 1)", w -> x.fault(0, 1, w), -1, -1);
        C.dueAll("fault(1, 5)", w -> x.fault(1, 5, w), -1, -1);
        whats(x, "fault", 2, w -> x.fault(0, 0, w));
        whats(x, "fault not found", 2, w -> x.fault(1, 5, w));
        numbers(x, "fault", 2, h -> x.fault(h, 0, 0));
        numbers(x, "fault of horse 0", 6, f -> x.fault(0, f, 1));
        numbers(x, "fault of horse 1", 6, f -> x.fault(1, f, 0));
    }

    /** "7 1 if it is UNDONE. NoSuchElementException: there is none such, or another what." */
    private static void askSale(HorseFair x) {
        C.dueAll("sale(0)", w -> x.sale(0, w), 0, 0, 1, 70, 33, 1, 1, 1);
        C.dueAll("sale(1)", w -> x.sale(1, w), 1, 2, 0, 40, 0, 2, 1, 0);
        C.dueAll("sale(2)", w -> x.sale(2, w), 1, 0, 2, 0, 1, 0, 2, 0);
        whats(x, "sale", 8, w -> x.sale(0, w));
        numbers(x, "sale", 3, k -> x.sale(k, 0));
        numbers(x, "sale", 3, k -> x.sale(k, 7));
    }

    private static void askPurse(HorseFair x) {
        C.dueAll("purse(0)", w -> x.purse(0, w), 0, 40, 0, 1, 1);
        C.dueAll("purse(1)", w -> x.purse(1, w), 30, 0, 40, 1, 0);
        C.dueAll("purse(2)", w -> x.purse(2, w), 40, 0, 0, 0, 1);
        whats(x, "purse", 5, w -> x.purse(0, w));
        numbers(x, "purse", 3, p -> x.purse(p, 0));
        numbers(x, "purse", 3, p -> x.purse(p, 4));
    }

    private static void askDebt(HorseFair x) {
        C.dueAll("debt(0)", w -> x.debt(0, w), 0, 1, 40, 40);
        whats(x, "debt", 4, w -> x.debt(0, w));
        numbers(x, "debt", 1, k -> x.debt(k, 0));
        numbers(x, "debt", 1, k -> x.debt(k, 3));
    }

    /** "HAND i of HORSE h (0 the first)". */
    private static void askHand(HorseFair x) {
        int[][] first = {{0, 0, 0}, {1, 1, 1}, {0, 2, 2}};
        int[][] second = {{2, 1, 0}, {0, 1, 1}, {2, 2, 1}, {1, 2, 3}};
        for (int i = 0; i < first.length; i++) {
            int hand = i;
            C.dueAll("hand(0, " + i + ")", w -> x.hand(0, hand, w), first[i]);
        }
        for (int i = 0; i < second.length; i++) {
            int hand = i;
            C.dueAll("hand(1, " + i + ")", w -> x.hand(1, hand, w), second[i]);
        }
        whats(x, "hand", 3, w -> x.hand(1, 3, w));
        numbers(x, "hand", 2, h -> x.hand(h, 0, 0));
        numbers(x, "hand of horse 0", 3, i -> x.hand(0, i, 0));
        numbers(x, "hand of horse 1", 4, i -> x.hand(1, i, 2));
    }

    /** "NONE for another what." */
    private static void askCount(HorseFair x) {
        C.dueAll("count", x::count, 2, 3, 2, 3, 2, 1, 1, 7);
        for (int what : new int[] {LEAST, -8, -1, 8, 9, MOST}) {
            C.refused(x, "count(" + what + ")", -1, () -> x.count(what));
        }
    }

    /** The 80th sale and the 80th debt can be asked for, and none behind it. */
    private static void allSalesAndDebts() {
        HorseFair x = new HorseFair();
        x.person(0);
        x.person(8000);
        x.person(0);
        Checks.law(x, 0, "toll 999;");
        for (int h = 0; h < 40; h++) {
            x.horse(0);
            x.find(h, 0, 0);
        }
        for (int k = 0; k < 80; k++) {
            int sale = k;
            C.refusedNoSuch(x, "sale(" + k + ", 0)", () -> x.sale(sale, 0));
            if (k >= 40) {
                C.due("back", x.back(k - 40), k - 40);
                C.dueAll("debt", w -> x.debt(sale - 40, w), 0, 1, k == 40 ? 60 : 100);
            }
            C.due("sell", x.sell(k % 40, 1, 100, 0, 0), k);
            C.due("price", x.sale(k, 3), 100);
        }
        for (int h = 0; h < 40; h++) {
            int debt = 40 + h;
            C.refusedNoSuch(x, "debt(" + debt + ", 0)", () -> x.debt(debt, 0));
            C.due("back", x.back(h), 40 + h);
            C.due("debts", x.count(5), 41 + h);
        }
        C.due("the last debt", x.debt(79, 2), 100);
        C.refusedNoSuch(x, "debt(80, 0)", () -> x.debt(80, 0));
        C.due("the last sale", x.sale(79, 7), 1);
        C.refusedNoSuch(x, "sale(80, 0)", () -> x.sale(80, 0));
    }

    /** A horse of person 0 that was stolen to and fro, and so has so many hands. */
    private static HorseFair withHands(int hands) {
        HorseFair x = new HorseFair();
        x.person(50);
        x.person(50);
        x.person(50);
        x.horse(0);
        for (int i = 1; i < hands; i++) {
            x.steal(0, i % 2);
        }
        return x;
    }

    /** "400 of all HORSES at most: later ones are not in it." */
    private static void handsUpTo400() {
        HorseFair x = withHands(399);
        C.due("hands of all", x.count(7), 399);
        C.refusedNoSuch(x, "hand(0, 399, 0)", () -> x.hand(0, 399, 0));
        x.next();
        C.due("the 400th", x.steal(0, 2), true);
        C.dueAll("it is in it", w -> x.hand(0, 399, w), 2, 1, 3);
        C.due("hands of all", x.count(7), 400);
        C.due("the 401st", x.steal(0, 1), true);
        C.due("it is holder", x.about(0, 0), 1);
        C.due("hands of all", x.count(7), 400);
        C.due("hands of it", x.about(0, 4), 400);
        C.dueAll("the last is as it was", w -> x.hand(0, 399, w), 2, 1, 3);
        C.refusedNoSuch(x, "hand(0, 400, 0)", () -> x.hand(0, 400, 0));
    }

    private static void handsOfOthersBehind400() {
        HorseFair x = withHands(398);
        C.due("the 399th", x.horse(1), 1);
        C.due("the 400th", x.sell(1, 2, 5, 0, 0), 0);
        C.due("behind it", x.horse(2), 2);
        C.due("behind it", x.sell(1, 0, 5, 0, 0), 1);
        C.due("hands of horse 0", x.about(0, 4), 398);
        C.due("hands of horse 1", x.about(1, 4), 2);
        C.dueAll("about horse 2", w -> x.about(2, w), 2, 2, -1, 0, 0);
        C.refusedNoSuch(x, "hand(2, 0, 0)", () -> x.hand(2, 0, 0));
        C.refusedNoSuch(x, "hand(1, 2, 0)", () -> x.hand(1, 2, 0));
        C.due("hands of all", x.count(7), 400);
    }

    /** Horses are sold, brought back, stolen and claimed all the same. */
    private static void everyWayBehind400() {
        HorseFair x = withHands(400);
        x.steal(0, 0);
        x.find(0, 0, 0);
        C.due("sell", x.sell(0, 1, 5, 0, 0), 0);
        C.dueAll("about", w -> x.about(0, w), 1, 1, 0, 1, 400);
        C.due("back", x.back(0), 0);
        C.dueAll("about", w -> x.about(0, w), 0, 0, -1, 1, 400);
        C.due("steal", x.steal(0, 2), true);
        C.due("sell", x.sell(0, 1, 5, 0, 0), 1);
        C.due("claim", x.claim(0), 1);
        C.dueAll("about", w -> x.about(0, w), 0, 0, -1, 1, 400);
        C.due("hands of all", x.count(7), 400);
    }

    /** "the first one from the DAY on which it came". */
    private static void firstHandFromTheDayOnWhichItCame() {
        HorseFair x = new HorseFair();
        x.person(0);
        x.person(0);
        for (int day = 0; day < 5; day++) {
            int horse = day;
            C.due("horse", x.horse(day % 2), day);
            C.dueAll("its first hand", w -> x.hand(horse, 0, w), day % 2, day, 0);
            C.due("next", x.next(), day + 1);
            C.dueAll("its first hand a day later", w -> x.hand(horse, 0, w), day % 2, day, 0);
        }
    }
}
