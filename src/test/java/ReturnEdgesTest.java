/** UNDONE, DEBT, BROUGHT BACK, CLAIMED, OPEN: on both sides of each bound that the document names. */
public final class ReturnEdgesTest {
    private static final Checks C = new Checks("ReturnEdgesTest");
    private static final int LEAST = Integer.MIN_VALUE;
    private static final int MOST = Integer.MAX_VALUE;

    public static void main(String[] args) {
        theRestIsADebt();
        aPriceOf0LeavesNoDebt();
        paidAsFarAsTheyGo();
        theOldestDebtFirst();
        paidBehindOneThatIsUndone();
        penceGoRound();
        penceGoRoundBesideOtherDebts();
        backOfAHorseThatIsThere();
        backSoManyDaysBehind();
        backByWarrantOrDays();
        backOfFaultsThatWereThere();
        backByAnyFault();
        backByTheBuyerWhoHolds();
        backOfTheLatestThatStands();
        backByTheLawOfItsLandNow();
        backAgainAndAgain();
        titleThatGoesBack();
        titleThatStays();
        claimOfAHorseThatIsThere();
        claimOfSalesSinceThen();
        claimOfThisTime();
        claimUndoesTheLatestFirst();
        openOf1AtLeast();
        openSoManyDaysBehindAtLeast();
        openToTheHolder();
        openOfTheLatestThatStands();
        openWhenADayBegins();
        C.close();
    }

    /** People with so many pence, and a horse of the first one with fault 0 since day 0. */
    private static HorseFair fair(int people, int pence) {
        HorseFair x = Checks.fair(people, pence);
        x.find(0, 0, 0);
        return x;
    }

    /** Person 0 sold horse 0 to person 1 for 100, and has so many pence of them still; person 2 has the others. */
    private static HorseFair sellerWith(int pence) {
        HorseFair x = new HorseFair();
        x.person(0);
        x.person(100);
        x.person(0);
        x.horse(0);
        x.horse(2);
        x.find(0, 0, 0);
        x.sell(0, 1, 100, 0, 0);
        x.sell(1, 0, 100 - pence, 0, 0);
        return x;
    }

    /** "What is due is paid with what PENCE the one has; the rest is a DEBT"; "of a rest of 0 there is none". */
    private static void theRestIsADebt() {
        for (int pence : new int[] {0, 1, 50, 98, 99, 100}) {
            HorseFair x = sellerWith(pence);
            C.due("seller has", x.purse(0, 0), pence);
            C.due("back", x.back(0), 0);
            C.due("debts", x.count(5), pence == 100 ? 0 : 1);
            C.dueAll("seller", w -> x.purse(0, w), 0, 100 - pence, 0, 2, 2);
            C.dueAll("buyer", w -> x.purse(1, w), pence, 0, 100 - pence, 0, 0);
            if (pence == 100) {
                C.refusedNoSuch(x, "debt(0, 0)", () -> x.debt(0, 0));
            } else {
                C.dueAll("debt", w -> x.debt(0, w), 0, 1, 100 - pence, 100 - pence);
            }
        }
        HorseFair y = fair(2, 101);
        y.sell(0, 1, 101, 0, 0);
        C.due("back", y.back(0), 0);
        C.due("what is above is left", y.purse(0, 0), 101);
    }

    private static void aPriceOf0LeavesNoDebt() {
        HorseFair x = fair(2, 0);
        x.sell(0, 1, 0, 0, 0);
        C.due("back", x.back(0), 0);
        C.due("debts", x.count(5), 0);
        C.due("undone", x.sale(0, 7), 1);
        C.due("holder", x.about(0, 0), 0);
    }

    /** "the oldest such is paid, as far as they go". */
    private static void paidAsFarAsTheyGo() {
        for (int coin : new int[] {1, 69, 70, 71, 1000000}) {
            HorseFair x = sellerWith(30);
            x.back(0);
            C.due("what one has then", x.coin(0, coin), Math.max(0, coin - 70));
            C.dueAll("debt", w -> x.debt(0, w), 0, 1, 70, Math.max(0, 70 - coin));
            C.due("to whom", x.purse(1, 0), 30 + Math.min(70, coin));
            HorseFair y = sellerWith(30);
            y.back(0);
            y.coin(2, 100000);
            int price = Math.min(coin, 100000);
            C.due("behind a sale too", y.sell(0, 2, price, 0, 0), 2);
            C.due("seller", y.purse(0, 0), Math.max(0, price - 70));
            C.due("left", y.debt(0, 3), Math.max(0, 70 - price));
        }
        HorseFair z = sellerWith(0);
        z.back(0);
        C.due("a coin of another pays nothing", z.coin(1, 5), 5);
        C.due("left", z.debt(0, 3), 100);
    }

    /** 0 owes 1, 2 and 3, each 10, in that order. */
    private static HorseFair threeDebts() {
        HorseFair x = new HorseFair();
        x.person(0);
        for (int p = 1; p < 4; p++) {
            x.person(10);
        }
        x.person(0);
        for (int h = 0; h < 3; h++) {
            x.horse(0);
            x.find(h, 0, 0);
            x.sell(h, h + 1, 10, 0, 0);
        }
        x.horse(4);
        x.sell(3, 0, 30, 0, 0);
        for (int h = 0; h < 3; h++) {
            x.back(h);
        }
        return x;
    }

    /** "DEBTS are numbered as they come". */
    private static void theOldestDebtFirst() {
        for (int coin = 1; coin <= 31; coin++) {
            HorseFair x = threeDebts();
            C.due("debts", x.count(5), 3);
            C.due("coin", x.coin(0, coin), Math.max(0, coin - 30));
            for (int k = 0; k < 3; k++) {
                int debt = k;
                int paid = Math.min(10, Math.max(0, coin - 10 * k));
                C.dueAll("debt " + k, w -> x.debt(debt, w), 0, k + 1, 10, 10 - paid);
                C.due("to whom", x.purse(k + 1, 0), paid);
            }
            C.due("owes", x.purse(0, 1), Math.max(0, 30 - coin));
        }
    }

    /** "so behind each SALE, each one that is UNDONE, each coin()". */
    private static void paidBehindOneThatIsUndone() {
        HorseFair x = new HorseFair();
        x.person(0);
        x.person(100);
        x.person(100);
        x.person(0);
        x.horse(0);
        x.horse(1);
        x.horse(3);
        x.find(0, 0, 0);
        x.find(1, 0, 0);
        x.sell(1, 2, 60, 0, 0);
        x.sell(2, 1, 100, 0, 0);
        x.sell(0, 1, 60, 0, 0);
        C.due("1 owes 2", x.back(1), 0);
        C.dueAll("debt", w -> x.debt(0, w), 1, 2, 60, 60);
        C.due("1 is given 60", x.back(0), 2);
        C.due("and pays at once", x.debt(0, 3), 0);
        C.dueAll("pence", p -> x.purse(p, 0), 0, 0, 100, 100);
        C.due("debts", x.count(5), 1);
    }

    /** A ring of three where one owes less than the others, beside debts that are paid and one that nobody pays. */
    private static void penceGoRoundBesideOtherDebts() {
        for (int less : new int[] {0, 1, 2, 50, 99}) {
            HorseFair x = new HorseFair();
            for (int p = 0; p < 6; p++) {
                x.person(300);
            }
            int[][] owed = {{3, 4, 7}, {0, 1, 100}, {5, 3, 9}, {1, 2, 100}, {2, 0, 100 - less}};
            for (int h = 0; h < 5; h++) {
                x.horse(owed[h][0]);
                x.find(h, 0, 0);
                x.sell(h, owed[h][1], owed[h][2], 0, 0);
            }
            x.person(0);
            for (int p = 0; p < 6; p++) {
                x.horse(6);
                x.sell(5 + p, p, x.purse(p, 0), 0, 0);
            }
            for (int h = 0; h < 5; h++) {
                x.back(h);
            }
            C.due("debts", x.count(5), 5);
            C.due("a debt is paid", x.coin(3, 7), 0);
            C.due("what one has then", x.coin(0, 1), less > 0 ? 0 : 1);
            C.dueAll("left", k -> x.debt(k, 3), 0, Math.max(0, less - 1), 9, Math.max(0, less - 1), 0);
            C.dueAll("pence", p -> x.purse(p, 0), less > 0 ? 0 : 1, 0, less > 0 ? 1 : 0, 0, 7, 0);
        }
    }

    /** "As long as there is a DEBT whose debtor has PENCE": three owe one another in a ring, each so many pence. */
    private static void penceGoRound() {
        for (int each : new int[] {1, 2, 31, 32, 33, 34, 100, 1000, 100000}) {
            for (int coin : new int[] {1, 2, 3, 7, each - 1, each, each + 1}) {
                if (coin > 0) {
                    HorseFair x = ring(each);
                    C.due("debts", x.count(5), 3);
                    C.due("coin", x.coin(1, coin), coin);
                    for (int p = 0; p < 3; p++) {
                        C.dueAll("purse", purseOf(x, p), p == 1 ? coin : 0, 0, 0);
                        C.due("left", x.debt(p, 3), 0);
                    }
                }
            }
        }
    }

    private static java.util.function.IntUnaryOperator purseOf(HorseFair x, int p) {
        return what -> x.purse(p, what);
    }

    private static HorseFair ring(int each) {
        HorseFair x = new HorseFair();
        for (int p = 0; p < 3; p++) {
            x.person(each);
        }
        x.person(0);
        for (int p = 0; p < 3; p++) {
            x.horse(p);
            x.find(p, 0, 0);
        }
        for (int p = 0; p < 3; p++) {
            x.sell(p, (p + 1) % 3, each, 0, 0);
        }
        for (int p = 0; p < 3; p++) {
            x.horse(3);
            x.sell(3 + p, p, each, 0, 0);
        }
        for (int p = 0; p < 3; p++) {
            x.back(p);
        }
        return x;
    }

    /** "NONE: no such HORSE, or it can't be." */
    private static void backOfAHorseThatIsThere() {
        HorseFair x = fair(2, 10);
        for (int h : new int[] {LEAST, -1, 1, 39, 40, MOST}) {
            C.refused(x, "back(" + h + ")", -1, () -> x.back(h));
            C.refused(x, "trace(" + h + ")", -1, () -> x.trace(h));
        }
        C.refused(x, "back without a sale", -1, () -> x.back(0));
        C.refused(x, "trace without a sale", 0, () -> x.trace(0));
        x.horse(0);
        x.sell(1, 1, 5, 0, 0);
        C.refused(x, "back without a fault", -1, () -> x.back(1));
        C.refused(x, "trace without a fault", 0, () -> x.trace(1));
    }

    /** Horse 0 was sold on day 3 with all warrants or none, and is brought back so many days later. */
    private static int backBehind(String law, int warrants, int days) {
        HorseFair x = fair(2, 10);
        Checks.pass(x, 3);
        x.sell(0, 1, 10, warrants, 2);
        Checks.law(x, 2, law);
        Checks.pass(x, days);
        int k = x.back(0);
        C.due("undone", x.sale(0, 7), k == 0 ? 1 : 0);
        C.due("holder", x.about(0, 0), k == 0 ? 0 : 1);
        C.due("hands", x.about(0, 4), k == 0 ? 3 : 2);
        return k;
    }

    /** "DAY is at most so many behind that DAY as .. tells of it". */
    private static void backSoManyDaysBehind() {
        for (int days : new int[] {0, 1, 2, 20}) {
            for (int behind : new int[] {0, 1, 2, 3, 19, 20, 21}) {
                int want = behind <= days ? 0 : -1;
                C.due("days " + days + ", " + behind, backBehind("days 0 " + days + ";", 0, behind), want);
                C.due("warrant " + days + ", " + behind, backBehind("warrant 0 " + days + ";", 63, behind), want);
            }
        }
        C.due("0 without a rule: the same day", backBehind("", 0, 0), 0);
        C.due("0 without a rule: a day later", backBehind("", 0, 1), -1);
        C.due("0 without a rule: the same day", backBehind("", 63, 0), 0);
        C.due("0 without a rule: a day later", backBehind("", 63, 1), -1);
    }

    /** "as warrant tells of it, if the SALE has that WARRANT, else days". */
    private static void backByWarrantOrDays() {
        String law = "days 0 2;warrant 0 4;";
        C.due("days, the last", backBehind(law, 62, 2), 0);
        C.due("days, too late", backBehind(law, 62, 3), -1);
        C.due("warrant, the last", backBehind(law, 1, 4), 0);
        C.due("warrant, too late", backBehind(law, 1, 5), -1);
        C.due("a warrant that is less than days", backBehind("days 0 4;warrant 0 2;", 1, 3), -1);
        for (int f = 0; f < 6; f++) {
            for (int warrants : new int[] {0, 63, 1 << f, 63 - (1 << f)}) {
                for (int days = 1; days <= 5; days++) {
                    HorseFair x = new HorseFair();
                    x.person(9);
                    x.person(9);
                    x.horse(0);
                    x.sell(0, 1, 9, warrants, 0);
                    Checks.law(x, 0, "days " + f + " 2;warrant " + f + " 4;");
                    Checks.pass(x, days);
                    x.find(0, f, 0);
                    C.due("fault " + f, x.back(0), days <= ((warrants >> f & 1) == 1 ? 4 : 2) ? 0 : -1);
                }
            }
        }
    }

    /** "of some FAULT that was FOUND and was there SINCE the DAY of the SALE or ahead". */
    private static void backOfFaultsThatWereThere() {
        for (int since = 0; since <= 8; since++) {
            HorseFair x = new HorseFair();
            x.person(9);
            x.person(9);
            x.horse(0);
            Checks.law(x, 0, "days 4 99;");
            Checks.pass(x, 5);
            x.sell(0, 1, 9, 0, 0);
            C.refused(x, "ahead of the find", -1, () -> x.back(0));
            Checks.pass(x, 3);
            x.find(0, 4, since);
            C.due("since " + since, x.back(0), since <= 5 ? 0 : -1);
        }
        HorseFair y = fair(2, 9);
        Checks.pass(y, 5);
        y.sell(0, 1, 9, 0, 0);
        C.due("found ahead of the sale", y.back(0), 0);
    }

    /** "of some FAULT": one that lets it is enough, and it must be one and the same. */
    private static void backByAnyFault() {
        for (int f = 0; f < 6; f++) {
            HorseFair x = new HorseFair();
            x.person(9);
            x.person(9);
            x.horse(0);
            x.next();
            x.sell(0, 1, 9, 0, 0);
            Checks.law(x, 0, "days " + f + " 9;");
            Checks.pass(x, 2);
            for (int other = 0; other < 6; other++) {
                if (other != f) {
                    x.find(0, other, 0);
                }
            }
            C.refused(x, "others are too late", -1, () -> x.back(0));
            x.find(0, f, 2);
            C.refused(x, "this one is too new", -1, () -> x.back(0));
            Checks.law(x, 0, "days " + (f + 1) % 6 + " 2;");
            C.due("another one", x.back(0), 0);
        }
    }

    /** "if its buyer is HOLDER". */
    private static void backByTheBuyerWhoHolds() {
        HorseFair x = fair(3, 9);
        x.sell(0, 1, 9, 0, 0);
        x.steal(0, 2);
        C.refused(x, "a thief", -1, () -> x.back(0));
        C.refused(x, "a thief", 0, () -> x.trace(0));
        x.steal(0, 0);
        C.refused(x, "the seller", -1, () -> x.back(0));
        C.due("claimed", x.claim(0), 0);
        C.due("the buyer", x.back(0), 0);
        C.refused(x, "once", -1, () -> x.back(0));
    }

    /** "the latest SALE of a HORSE that STANDS". */
    private static void backOfTheLatestThatStands() {
        HorseFair x = fair(3, 9);
        Checks.law(x, 0, "days 0 5;");
        x.horse(2);
        x.sell(0, 1, 1, 0, 0);
        x.sell(0, 2, 2, 0, 1);
        x.sell(1, 0, 3, 0, 0);
        x.next();
        C.refused(x, "the latest can't be, the one ahead of it could", -1, () -> x.back(0));
        C.refused(x, "trace", 0, () -> x.trace(0));
        Checks.law(x, 1, "days 0 1;");
        C.due("back", x.back(0), 1);
        C.due("latest", x.about(0, 2), 0);
        x.sell(0, 0, 0, 0, 0);
        C.due("back", x.back(0), 3);
        C.due("back", x.back(0), 0);
        C.due("latest", x.about(0, 2), -1);
        C.due("another horse", x.about(1, 2), 2);
    }

    /** "by the LAW of its LAND now". */
    private static void backByTheLawOfItsLandNow() {
        HorseFair x = fair(2, 9);
        Checks.law(x, 0, "days 0 9;");
        Checks.law(x, 2, "days 0 9;");
        x.sell(0, 1, 9, 0, 1);
        Checks.pass(x, 3);
        C.refused(x, "other lands", -1, () -> x.back(0));
        Checks.law(x, 1, "days 0 2;");
        C.refused(x, "a day too late", -1, () -> x.back(0));
        Checks.law(x, 1, "days 0 3;days 0 9;");
        C.refused(x, "a law with a fault", -1, () -> x.back(0));
        Checks.law(x, 1, "days 0 3;");
        C.due("now", x.back(0), 0);
    }

    /** "BROUGHT BACK again and again, as far as it can be: how many SALES are UNDONE". */
    private static void backAgainAndAgain() {
        for (int sales : new int[] {0, 1, 2, 79, 80}) {
            HorseFair x = fair(2, 100);
            for (int k = 0; k < sales; k++) {
                x.sell(0, 1 - k % 2, 100, 0, 0);
            }
            C.due("trace", x.trace(0), sales);
            C.due("stand", x.count(4), 0);
            C.dueAll("about", w -> x.about(0, w), 0, 0, -1, 1, 1 + 2 * sales);
            C.due("pence", x.purse(0, 0), 100);
            C.due("debts", x.count(5), 0);
            C.refused(x, "again", 0, () -> x.trace(0));
        }
        HorseFair y = fair(4, 9);
        y.sell(0, 1, 1, 0, 0);
        y.steal(0, 2);
        y.sell(0, 3, 1, 0, 0);
        C.due("as far as the thief", y.trace(0), 1);
        C.dueAll("about", w -> y.about(0, w), 2, 1, 0, 1, 5);
    }

    /** "has the TITLE, if the buyer had it by that SALE, or by OPEN behind it". */
    private static void titleThatGoesBack() {
        HorseFair x = fair(3, 9);
        x.sell(0, 1, 1, 0, 0);
        C.due("title", x.about(0, 1), 1);
        C.due("back", x.back(0), 0);
        C.due("by that sale", x.about(0, 1), 0);
        HorseFair y = fair(3, 9);
        Checks.law(y, 0, "open 1;days 0 9;");
        y.steal(0, 1);
        y.sell(0, 2, 1, 0, 0);
        y.next();
        C.due("title", y.about(0, 1), 2);
        C.due("back", y.back(0), 0);
        C.dueAll("by open", w -> y.about(0, w), 1, 1);
        C.refused(y, "nothing to claim", -1, () -> y.claim(0));
    }

    private static void titleThatStays() {
        HorseFair x = fair(3, 9);
        x.steal(0, 1);
        x.sell(0, 2, 1, 0, 0);
        C.due("back", x.back(0), 0);
        C.dueAll("another's", w -> x.about(0, w), 1, 0);
        HorseFair y = fair(3, 9);
        y.steal(0, 1);
        y.sell(0, 0, 1, 0, 0);
        C.due("back", y.back(0), 0);
        C.dueAll("the buyer's ahead of that sale", w -> y.about(0, w), 1, 0);
        C.due("claim", y.claim(0), 0);
    }

    /** "NONE: no such one, or its HOLDER has the TITLE." */
    private static void claimOfAHorseThatIsThere() {
        HorseFair x = fair(3, 9);
        for (int h : new int[] {LEAST, -1, 1, 39, 40, MOST}) {
            C.refused(x, "claim(" + h + ")", -1, () -> x.claim(h));
        }
        C.refused(x, "never apart", -1, () -> x.claim(0));
        x.sell(0, 1, 1, 0, 0);
        C.refused(x, "sold with the title", -1, () -> x.claim(0));
        x.steal(0, 2);
        C.due("stolen", x.claim(0), 0);
        C.dueAll("about", w -> x.about(0, w), 1, 1, 0, 1, 4);
        C.refused(x, "again", -1, () -> x.claim(0));
        x.steal(0, 2);
        x.steal(0, 1);
        C.refused(x, "stolen back", -1, () -> x.claim(0));
    }

    /** "all SALES of the HORSE that STAND and were made since HOLDER and TITLE are apart". */
    private static void claimOfSalesSinceThen() {
        HorseFair x = fair(4, 100);
        x.horse(2);
        x.sell(0, 1, 1, 0, 0);
        x.steal(0, 2);
        x.sell(0, 3, 2, 0, 0);
        x.sell(1, 3, 3, 0, 0);
        x.sell(0, 2, 4, 0, 1);
        C.due("one is undone", x.back(0), 3);
        x.sell(0, 0, 5, 0, 0);
        x.steal(0, 2);
        x.sell(0, 3, 6, 0, 0);
        C.due("claim", x.claim(0), 3);
        C.dueAll("undone", k -> x.sale(k, 7), 0, 1, 0, 1, 1, 1);
        C.dueAll("pence", p -> x.purse(p, 0), 101, 99, 103, 97);
        C.dueAll("about", w -> x.about(0, w), 1, 1, 0, 1, 10);
        C.dueAll("one hand of it", w -> x.hand(0, 9, w), 1, 0, 4);
    }

    /** "(this time)". */
    private static void claimOfThisTime() {
        HorseFair x = fair(4, 100);
        x.steal(0, 1);
        x.sell(0, 2, 1, 0, 0);
        x.sell(0, 0, 1, 0, 0);
        x.steal(0, 3);
        C.due("those of another time stand", x.claim(0), 0);
        x.steal(0, 3);
        x.sell(0, 2, 1, 0, 0);
        C.due("that of this time", x.claim(0), 1);
        C.dueAll("undone", k -> x.sale(k, 7), 0, 0, 1);
        C.due("latest", x.about(0, 2), 1);
        HorseFair y = fair(4, 100);
        y.steal(0, 1);
        y.sell(0, 0, 1, 0, 0);
        y.back(0);
        y.sell(0, 2, 1, 0, 0);
        C.due("apart since it was brought back", y.claim(0), 1);
    }

    /** "are UNDONE, the latest first". */
    private static void claimUndoesTheLatestFirst() {
        HorseFair x = fair(5, 10);
        x.horse(4);
        x.steal(0, 1);
        x.sell(0, 2, 10, 0, 0);
        x.sell(0, 3, 10, 0, 0);
        x.sell(1, 1, 10, 0, 0);
        x.steal(1, 4);
        x.sell(1, 2, 10, 0, 0);
        x.steal(1, 4);
        x.sell(1, 1, 10, 0, 0);
        C.dueAll("pence", p -> x.purse(p, 0), 10, 0, 0, 0, 40);
        C.due("claim", x.claim(0), 2);
        C.dueAll("the latest first", w -> x.debt(0, w), 2, 3, 10, 10);
        C.dueAll("then the one ahead", w -> x.debt(1, w), 1, 2, 10, 10);
        C.due("coin", x.coin(1, 4), 0);
        C.due("what is paid goes on at once", x.purse(3, 0), 4);
        C.dueAll("left", k -> x.debt(k, 3), 6, 6);
    }

    /** Horse 0, stolen by 1, was sold to 2 on day 1 in land 1; the title so many days later. */
    private static int titleBehind(String law, int days) {
        HorseFair x = fair(3, 9);
        Checks.law(x, 1, law);
        x.steal(0, 1);
        x.next();
        x.sell(0, 2, 9, 0, 1);
        Checks.pass(x, days);
        C.due("holder", x.about(0, 0), 2);
        C.due("open makes no hand", x.about(0, 4), 3);
        return x.about(0, 1);
    }

    /** "in a LAND that tells open of 1 at least". */
    private static void openOf1AtLeast() {
        for (int days = 0; days < 5; days++) {
            C.due("open of 0", titleBehind("open 0;", days), 0);
            C.due("no open", titleBehind("", days), 0);
            C.due("open of 1", titleBehind("open 1;", days), days >= 1 ? 2 : 0);
        }
    }

    /** "DAY is so many behind its DAY at least". */
    private static void openSoManyDaysBehindAtLeast() {
        for (int open : new int[] {1, 2, 3, 10}) {
            for (int days = 0; days <= 11; days++) {
                C.due("open " + open + ", " + days, titleBehind("open " + open + ";", days), days >= open ? 2 : 0);
            }
        }
        HorseFair x = fair(3, 9);
        x.steal(0, 1);
        x.sell(0, 2, 9, 0, 0);
        Checks.pass(x, 9);
        C.due("no open yet", x.about(0, 1), 0);
        Checks.law(x, 0, "open 3;");
        x.next();
        C.due("long behind", x.about(0, 1), 2);
    }

    /** "was to the HOLDER"; "of each HORSE". */
    private static void openToTheHolder() {
        HorseFair x = fair(4, 9);
        Checks.law(x, 0, "open 1;");
        for (int h = 1; h < 40; h++) {
            x.horse(0);
        }
        for (int h = 0; h < 40; h++) {
            x.steal(h, 1);
            if (h % 3 > 0) {
                x.sell(h, 2, 0, 0, 0);
            }
            if (h % 3 > 1) {
                x.steal(h, 3);
            }
        }
        x.next();
        for (int h = 0; h < 40; h++) {
            C.due("title of horse " + h, x.about(h, 1), h % 3 == 1 ? 2 : 0);
        }
        x.steal(2, 2);
        x.next();
        C.due("the buyer holds it again", x.about(2, 1), 2);
    }

    /** "the latest SALE of it that STANDS". */
    private static void openOfTheLatestThatStands() {
        HorseFair x = fair(4, 9);
        Checks.law(x, 0, "open 2;days 0 9;");
        x.steal(0, 1);
        x.sell(0, 2, 1, 0, 0);
        x.next();
        x.sell(0, 3, 1, 0, 1);
        x.next();
        C.due("the latest is in another land", x.about(0, 1), 0);
        Checks.law(x, 1, "days 0 9;");
        C.due("it is brought back", x.back(0), 1);
        C.due("not till a day begins", x.about(0, 1), 0);
        x.next();
        C.due("the one ahead stands", x.about(0, 1), 2);
        C.due("back", x.back(0), 0);
        C.dueAll("the title was of that sale", w -> x.about(0, w), 1, 1, -1);
    }

    /** "when a DAY begins". */
    private static void openWhenADayBegins() {
        HorseFair x = fair(3, 9);
        x.steal(0, 1);
        x.sell(0, 2, 1, 0, 0);
        x.next();
        Checks.law(x, 0, "open 1;");
        C.due("the law alone", x.about(0, 1), 0);
        x.coin(0, 1);
        C.due("another call", x.about(0, 1), 0);
        x.next();
        C.due("a day begins", x.about(0, 1), 2);
        C.refused(x, "no claim", -1, () -> x.claim(0));
        Checks.law(x, 0, "");
        x.next();
        C.due("it stays", x.about(0, 1), 2);
    }
}
