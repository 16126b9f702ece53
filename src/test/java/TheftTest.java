/** Promises 14 to 16: steal, claim, next, and what is OPEN. */
public final class TheftTest {
    private static final Checks C = new Checks("TheftTest");

    public static void main(String[] args) {
        steals();
        claims();
        claimsOfThisTimeAlone();
        ownersStealBack();
        opens();
        openNeedsTheHolder();
        openIsOfTheLawNow();
        openEndsTheTime();
        takenFromAThirdOne();
        lastDay();
        C.close();
    }

    private static void steals() {
        HorseFair x = Checks.fair(3, 0);
        C.due("no such horse", x.steal(1, 1), false);
        C.due("no such horse", x.steal(-1, 1), false);
        C.due("no such thief", x.steal(0, 3), false);
        C.due("no such thief", x.steal(0, -1), false);
        C.due("the holder", x.steal(0, 0), false);
        C.due("claim of none", x.claim(0), -1);
        x.next();
        C.due("stolen", x.steal(0, 1), true);
        C.due("stolen again", x.steal(0, 2), true);
        C.due("the holder", x.steal(0, 2), false);
        C.dueAll("about", w -> x.about(0, w), 2, 0, -1, 0, 3);
        C.dueAll("hand 2", w -> x.hand(0, 2, w), 2, 1, 3);
        C.dueAll("purse(0)", w -> x.purse(0, w), 0, 0, 0, 0, 1);
        C.dueAll("purse(2)", w -> x.purse(2, w), 0, 0, 0, 1, 0);
    }

    private static void claims() {
        HorseFair x = Checks.fair(4, 100);
        C.due("no such horse", x.claim(1), -1);
        C.due("no such horse", x.claim(-1), -1);
        C.due("the holder has the title", x.claim(0), -1);
        x.sell(0, 1, 10, 0, 0);
        x.steal(0, 2);
        x.horse(2);
        x.sell(0, 3, 20, 0, 0);
        x.sell(1, 0, 7, 0, 0);
        x.sell(0, 2, 30, 0, 0);
        x.next();
        C.due("claim", x.claim(0), 2);
        C.dueAll("about", w -> x.about(0, w), 1, 1, 0, 0, 6);
        C.dueAll("hand 5", w -> x.hand(0, 5, w), 1, 1, 4);
        C.due("ahead of the theft", x.sale(0, 7), 0);
        C.due("behind it", x.sale(1, 7), 1);
        C.due("another horse", x.sale(2, 7), 0);
        C.due("behind it", x.sale(3, 7), 1);
        C.due("thief", x.purse(2, 0), 107);
        C.due("buyer", x.purse(3, 0), 100);
        C.due("claim again", x.claim(0), -1);
        x.steal(0, 3);
        C.due("without a sale", x.claim(0), 0);
        C.due("count(4)", x.count(4), 2);
    }

    private static void claimsOfThisTimeAlone() {
        HorseFair x = Checks.fair(3, 100);
        x.steal(0, 1);
        x.sell(0, 2, 10, 0, 0);
        x.sell(0, 0, 20, 0, 0);
        x.steal(0, 1);
        x.sell(0, 2, 30, 0, 0);
        C.due("this time alone", x.claim(0), 1);
        C.due("stands", x.sale(0, 7), 0);
        C.due("stands", x.sale(1, 7), 0);
        C.due("undone", x.sale(2, 7), 1);
        C.due("latest", x.about(0, 2), 1);
    }

    private static void ownersStealBack() {
        HorseFair x = Checks.fair(3, 100);
        x.steal(0, 1);
        x.sell(0, 2, 10, 0, 0);
        C.due("the owner steals", x.steal(0, 0), true);
        C.due("together", x.claim(0), -1);
        C.due("the sale stands", x.about(0, 2), 0);
        x.steal(0, 1);
        C.due("of this time there is none", x.claim(0), 0);
        C.due("the sale stands", x.about(0, 2), 0);
    }

    private static void opens() {
        HorseFair x = Checks.fair(3, 100);
        Checks.law(x, 1, "open 2;");
        x.steal(0, 1);
        x.next();
        x.sell(0, 2, 10, 0, 1);
        C.due("next", x.next(), 2);
        C.due("not yet", x.about(0, 1), 0);
        C.due("next", x.next(), 3);
        C.due("open", x.about(0, 1), 2);
        C.due("no hand of it", x.about(0, 4), 3);
        C.due("no claim", x.claim(0), -1);
        HorseFair y = Checks.fair(3, 100);
        Checks.law(y, 1, "open 0;");
        y.steal(0, 1);
        y.sell(0, 2, 10, 0, 1);
        y.next();
        y.next();
        C.due("open of 0 is none", y.about(0, 1), 0);
    }

    private static void openNeedsTheHolder() {
        HorseFair x = Checks.fair(4, 100);
        Checks.law(x, 0, "open 1;");
        x.steal(0, 1);
        x.next();
        C.due("a thief without a sale", x.about(0, 1), 0);
        x.sell(0, 2, 10, 0, 0);
        x.steal(0, 3);
        x.next();
        C.due("not the buyer", x.about(0, 1), 0);
        x.steal(0, 2);
        x.next();
        C.due("the buyer again", x.about(0, 1), 2);
    }

    private static void openIsOfTheLawNow() {
        HorseFair x = Checks.fair(3, 100);
        x.steal(0, 1);
        x.sell(0, 2, 10, 0, 1);
        Checks.law(x, 0, "open 1;");
        x.next();
        C.due("another land", x.about(0, 1), 0);
        Checks.law(x, 1, "open 1;");
        C.due("not till a day begins", x.about(0, 1), 0);
        x.next();
        C.due("open", x.about(0, 1), 2);
    }

    private static void openEndsTheTime() {
        HorseFair x = Checks.fair(4, 100);
        Checks.law(x, 0, "open 1;");
        x.steal(0, 1);
        x.sell(0, 2, 10, 0, 0);
        x.next();
        C.due("open", x.about(0, 1), 2);
        x.sell(0, 3, 20, 0, 0);
        C.due("title", x.about(0, 1), 3);
        x.steal(0, 0);
        x.sell(0, 1, 5, 0, 0);
        C.due("claim", x.claim(0), 1);
        C.due("latest", x.about(0, 2), 1);
        C.due("holder", x.about(0, 0), 3);
    }

    /** A buyer whose title has gone to another by OPEN can't give it back. */
    private static void takenFromAThirdOne() {
        HorseFair x = Checks.fair(4, 100);
        Checks.law(x, 0, "open 1;days 0 9;");
        x.find(0, 0, 0);
        x.sell(0, 1, 10, 0, 1);
        Checks.law(x, 1, "days 0 9;");
        x.steal(0, 2);
        x.sell(0, 3, 20, 0, 0);
        x.next();
        C.due("open", x.about(0, 1), 3);
        C.due("back to the thief", x.back(0), 1);
        C.dueAll("the thief's by open", w -> x.about(0, w), 2, 2, 0, 1, 5);
        x.steal(0, 1);
        C.due("back", x.back(0), 0);
        C.dueAll("the title stays", w -> x.about(0, w), 0, 2, -1, 1, 7);
    }

    private static void lastDay() {
        HorseFair x = new HorseFair();
        for (int d = 1; d <= 999; d++) {
            C.due("next", x.next(), d);
        }
        C.due("behind the last day", x.next(), -1);
        C.due("day", x.count(0), 999);
    }
}
