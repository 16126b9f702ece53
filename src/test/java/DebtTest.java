/** Promises 8, 20 and 21: DEBTS, as they come and are paid. */
public final class DebtTest {
    private static final Checks C = new Checks("DebtTest");

    public static void main(String[] args) {
        restIsADebt();
        paidByCoin();
        paidBySale();
        oldestFirst();
        onward();
        paidByOneThatIsUndone();
        roundAndRound();
        claimsPayLatestFirst();
        wrongOnes();
        eightyDebts();
        longestRound();
        C.close();
    }

    /** Person 0 sold a horse with fault 0 to 1 for 100, and has but 30 left; person 2 is rich. */
    private static HorseFair poorSeller() {
        HorseFair x = new HorseFair();
        x.person(0);
        x.person(100);
        x.person(1000);
        x.horse(0);
        x.horse(2);
        x.find(0, 0, 0);
        x.sell(0, 1, 100, 0, 0);
        x.sell(1, 0, 70, 0, 0);
        return x;
    }

    private static void restIsADebt() {
        HorseFair x = poorSeller();
        C.due("count(5)", x.count(5), 0);
        C.due("back", x.back(0), 0);
        C.due("count(5)", x.count(5), 1);
        C.dueAll("debt", w -> x.debt(0, w), 0, 1, 70, 70);
        C.dueAll("purse(0)", w -> x.purse(0, w), 0, 70, 0, 2, 2);
        C.dueAll("purse(1)", w -> x.purse(1, w), 30, 0, 70, 0, 0);
        HorseFair y = new HorseFair();
        y.person(0);
        y.person(100);
        y.horse(0);
        y.find(0, 0, 0);
        y.sell(0, 1, 100, 0, 0);
        C.due("back", y.back(0), 0);
        C.due("of a rest of 0 there is none", y.count(5), 0);
        C.due("pence", y.purse(1, 0), 100);
    }

    private static void paidByCoin() {
        HorseFair x = poorSeller();
        x.back(0);
        C.due("coin", x.coin(0, 60), 0);
        C.dueAll("debt", w -> x.debt(0, w), 0, 1, 70, 10);
        C.due("owes", x.purse(0, 1), 10);
        C.due("is owed", x.purse(1, 2), 10);
        C.due("has", x.purse(1, 0), 90);
        C.due("coin of another", x.coin(2, 5), 1075);
        C.due("left", x.debt(0, 3), 10);
        C.due("coin", x.coin(0, 60), 50);
        C.dueAll("debt", w -> x.debt(0, w), 0, 1, 70, 0);
        C.due("has", x.purse(1, 0), 100);
        C.due("coin", x.coin(0, 60), 110);
        C.due("count(5)", x.count(5), 1);
    }

    private static void paidBySale() {
        HorseFair x = poorSeller();
        x.back(0);
        Checks.law(x, 0, "toll 500;");
        C.due("sell", x.sell(1, 2, 100, 0, 0), 2);
        C.due("left", x.debt(0, 3), 20);
        C.due("seller has", x.purse(0, 0), 0);
        C.due("creditor has", x.purse(1, 0), 80);
        C.due("chest", x.rule(0, 14), 50);
    }

    private static void oldestFirst() {
        HorseFair x = new HorseFair();
        x.person(0);
        x.person(100);
        x.person(100);
        x.person(1000);
        x.horse(0);
        x.horse(0);
        x.horse(3);
        x.find(0, 0, 0);
        x.find(1, 0, 0);
        x.sell(0, 1, 100, 0, 0);
        x.sell(1, 2, 50, 0, 0);
        x.sell(2, 0, 150, 0, 0);
        C.due("back", x.back(1), 1);
        C.due("back", x.back(0), 0);
        C.dueAll("debt 0", w -> x.debt(0, w), 0, 2, 50, 50);
        C.dueAll("debt 1", w -> x.debt(1, w), 0, 1, 100, 100);
        C.due("owes", x.purse(0, 1), 150);
        C.due("coin", x.coin(0, 60), 0);
        C.due("oldest", x.debt(0, 3), 0);
        C.due("next", x.debt(1, 3), 90);
        C.due("coin", x.coin(0, 91), 1);
        C.due("next", x.debt(1, 3), 0);
        C.due("owes", x.purse(0, 1), 0);
    }

    /** What a debtor is paid goes on to those whom that one owes. */
    private static void onward() {
        HorseFair x = new HorseFair();
        x.person(0);
        x.person(100);
        x.person(100);
        x.person(0);
        x.horse(0);
        x.horse(3);
        x.find(0, 0, 0);
        x.sell(0, 1, 100, 0, 0);
        x.sell(0, 2, 100, 0, 0);
        x.sell(1, 0, 100, 0, 0);
        x.sell(1, 1, 100, 0, 0);
        x.sell(1, 0, 100, 0, 0);
        x.sell(1, 3, 0, 0, 0);
        x.sell(1, 0, 0, 0, 0);
        C.due("pence", x.purse(0, 0), 0);
        C.due("pence", x.purse(1, 0), 100);
        x.horse(3);
        x.sell(2, 1, 100, 0, 0);
        C.due("trace", x.trace(0), 2);
        C.dueAll("debt 0", w -> x.debt(0, w), 1, 2, 100, 100);
        C.dueAll("debt 1", w -> x.debt(1, w), 0, 1, 100, 100);
        C.due("coin", x.coin(0, 30), 0);
        C.due("through", x.purse(1, 0), 0);
        C.due("on", x.purse(2, 0), 30);
        C.due("left", x.debt(0, 3), 70);
        C.due("left", x.debt(1, 3), 70);
    }

    /** A buyer who owes is given the price back, and pays with it at once. */
    private static void paidByOneThatIsUndone() {
        HorseFair x = new HorseFair();
        x.person(0);
        x.person(50);
        x.person(100);
        x.horse(1);
        x.horse(0);
        x.find(0, 0, 0);
        x.find(1, 0, 0);
        x.sell(0, 2, 100, 0, 0);
        x.sell(1, 1, 150, 0, 0);
        C.due("back", x.back(0), 0);
        C.dueAll("debt", w -> x.debt(0, w), 1, 2, 100, 100);
        C.due("back", x.back(1), 1);
        C.due("left", x.debt(0, 3), 0);
        C.due("seller", x.purse(0, 0), 0);
        C.due("buyer", x.purse(1, 0), 50);
        C.due("creditor", x.purse(2, 0), 100);
    }

    /** Two who owe one another: a penny goes to and fro till a debt is paid. */
    private static void roundAndRound() {
        HorseFair x = mutualDebts(100);
        C.dueAll("debt 0", w -> x.debt(0, w), 0, 1, 100, 100);
        C.dueAll("debt 1", w -> x.debt(1, w), 1, 0, 100, 100);
        C.due("coin", x.coin(0, 1), 1);
        C.due("debt 0", x.debt(0, 3), 0);
        C.due("debt 1", x.debt(1, 3), 0);
        HorseFair y = mutualDebts(100);
        C.due("coin", y.coin(1, 30), 30);
        C.due("debt 0", y.debt(0, 3), 0);
        C.due("debt 1", y.debt(1, 3), 0);
        C.due("has", y.purse(1, 0), 30);
    }

    /** 0 owes 1, and 1 owes 0, so much each; both have nothing. */
    private static HorseFair mutualDebts(int pence) {
        HorseFair x = new HorseFair();
        x.person(pence);
        x.person(pence);
        x.person(0);
        x.horse(0);
        x.horse(1);
        x.horse(2);
        x.find(0, 0, 0);
        x.find(1, 0, 0);
        x.sell(0, 1, pence, 0, 0);
        x.sell(1, 0, pence, 0, 0);
        x.sell(2, 0, pence, 0, 0);
        x.sell(2, 1, 0, 0, 0);
        x.horse(2);
        x.sell(3, 1, pence, 0, 0);
        x.back(0);
        x.back(1);
        return x;
    }

    private static void claimsPayLatestFirst() {
        HorseFair x = new HorseFair();
        x.person(0);
        x.person(0);
        x.person(100);
        x.person(100);
        x.person(0);
        x.horse(0);
        x.horse(4);
        x.steal(0, 1);
        x.sell(0, 2, 40, 0, 0);
        x.sell(0, 3, 50, 0, 0);
        x.sell(1, 2, 110, 0, 0);
        x.horse(4);
        x.sell(2, 1, 40, 0, 0);
        C.due("claim", x.claim(0), 2);
        C.dueAll("the latest first", w -> x.debt(0, w), 2, 3, 50, 50);
        C.dueAll("then the first", w -> x.debt(1, w), 1, 2, 40, 40);
        C.due("coin", x.coin(1, 40), 0);
        C.due("on", x.purse(3, 0), 90);
        C.due("left", x.debt(0, 3), 10);
    }

    private static void wrongOnes() {
        HorseFair x = poorSeller();
        C.noSuch("debt(0, 0)", () -> x.debt(0, 0));
        x.back(0);
        for (int wrong : new int[] {-1, 4, Integer.MIN_VALUE, Integer.MAX_VALUE}) {
            C.noSuch("debt(0, " + wrong + ")", () -> x.debt(0, wrong));
            C.noSuch("debt(" + wrong + ", 0)", () -> x.debt(wrong, 0));
        }
        C.noSuch("debt(1, 0)", () -> x.debt(1, 0));
    }

    /** Two who owe one another nearly all that 80 sales can leave, and one penny: it goes round to the end. */
    private static void longestRound() {
        HorseFair x = new HorseFair();
        x.person(900000);
        x.person(900000);
        x.person(0);
        Checks.law(x, 0, "toll 999;");
        for (int h = 0; h < 39; h++) {
            x.horse(h % 2);
            x.find(h, 0, 0);
        }
        for (int k = 0; k < 78; k++) {
            int buyer = 1 - x.about(k % 39, 0);
            if (x.purse(buyer, 0) < 100000) {
                x.coin(buyer, 1000000);
            }
            C.due("sell", x.sell(k % 39, buyer, 100000, 0, 0), k);
        }
        x.horse(2);
        C.due("the rest goes", x.sell(39, 0, x.purse(0, 0), 0, 0), 78);
        x.steal(39, 2);
        C.due("the rest goes", x.sell(39, 1, x.purse(1, 0), 0, 0), 79);
        for (int h = 0; h < 39; h++) {
            C.due("trace", x.trace(h), 2);
        }
        C.dueAll("purse(0)", w -> x.purse(0, w), 0, 3900000, 3900000, 20, 21);
        C.dueAll("purse(1)", w -> x.purse(1, w), 0, 3900000, 3900000, 20, 19);
        C.due("coin", x.coin(0, 1), 1);
        C.dueAll("purse(0)", w -> x.purse(0, w), 1, 0, 0, 20, 21);
        C.dueAll("purse(1)", w -> x.purse(1, w), 0, 0, 0, 20, 19);
    }

    private static void eightyDebts() {
        HorseFair x = new HorseFair();
        x.person(0);
        x.person(40000);
        x.person(40000);
        Checks.law(x, 0, "toll 999;");
        for (int h = 0; h < 40; h++) {
            x.horse(0);
            x.find(h, 0, 0);
            C.due("sell", x.sell(h, 1, 1000, 0, 0), h);
        }
        for (int h = 0; h < 40; h++) {
            C.due("sell", x.sell(h, 2, 1000, 0, 0), 40 + h);
        }
        for (int h = 0; h < 40; h++) {
            C.due("trace", x.trace(h), 2);
        }
        C.due("count(5)", x.count(5), 80);
        C.dueAll("debt 0", w -> x.debt(0, w), 1, 2, 960, 920);
        C.dueAll("debt 79", w -> x.debt(79, w), 0, 1, 1000, 1000);
        C.noSuch("debt(80, 0)", () -> x.debt(80, 0));
        C.dueAll("purse(0)", w -> x.purse(0, w), 0, 39960, 0, 40, 40);
        C.dueAll("purse(1)", w -> x.purse(1, w), 0, 39920, 39960, 0, 0);
        C.dueAll("purse(2)", w -> x.purse(2, w), 80, 0, 39920, 0, 0);
        C.due("coin", x.coin(0, 39961), 1);
        C.dueAll("purse(1)", w -> x.purse(1, w), 40, 0, 0, 0, 0);
        C.dueAll("purse(2)", w -> x.purse(2, w), 40000, 0, 0, 0, 0);
    }
}
