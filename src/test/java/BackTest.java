/** Promises 11 to 13 and 18: find, back, trace, fault. */
public final class BackTest {
    private static final Checks C = new Checks("BackTest");

    public static void main(String[] args) {
        finds();
        daysOfLaw();
        warrants();
        faultMustBeOld();
        lawOfToday();
        buyerMustHold();
        titleGoesBack();
        titleStaysWithItsOwner();
        traces();
        C.close();
    }

    private static void finds() {
        HorseFair x = Checks.fair(1, 0);
        Checks.pass(x, 5);
        C.due("no such horse", x.find(1, 0, 0), false);
        C.due("no such horse", x.find(-1, 0, 0), false);
        C.due("no such fault", x.find(0, 6, 0), false);
        C.due("no such fault", x.find(0, -1, 0), false);
        C.due("a day ahead of 0", x.find(0, 0, -1), false);
        C.due("a day that comes", x.find(0, 0, 6), false);
        C.due("none found", x.about(0, 3), 0);
        C.due("found", x.find(0, 0, 5), true);
        C.due("found", x.find(0, 5, 0), true);
        x.next();
        C.due("it was found", x.find(0, 5, 6), false);
        C.due("found", x.find(0, 3, 2), true);
        C.due("bits", x.about(0, 3), 41);
        C.dueAll("fault 0", w -> x.fault(0, 0, w), 5, 5);
        C.dueAll("fault 5", w -> x.fault(0, 5, w), 5, 0);
        C.dueAll("fault 3", w -> x.fault(0, 3, w), 6, 2);
        C.dueAll("fault 1", w -> x.fault(0, 1, w), -1, -1);
        for (int wrong : new int[] {-1, 6, Integer.MIN_VALUE, Integer.MAX_VALUE}) {
            C.noSuch("fault(0, " + wrong + ", 0)", () -> x.fault(0, wrong, 0));
            C.noSuch("fault(" + wrong + ", 0, 0)", () -> x.fault(wrong, 0, 0));
            C.noSuch("fault(0, 0, " + wrong + ")", () -> x.fault(0, 0, wrong));
        }
        C.noSuch("fault(0, 0, 2)", () -> x.fault(0, 0, 2));
        C.noSuch("fault(1, 0, 0)", () -> x.fault(1, 0, 0));
        C.due("no sale to go back", x.back(0), -1);
    }

    private static int backAfter(int days, String law, int fault, int warrants) {
        HorseFair x = Checks.fair(2, 100);
        x.sell(0, 1, 10, warrants, 1);
        Checks.law(x, 1, law);
        Checks.pass(x, days);
        x.find(0, fault, 0);
        return x.back(0);
    }

    private static void daysOfLaw() {
        C.due("on the last day", backAfter(3, "days 2 3;", 2, 0), 0);
        C.due("a day behind", backAfter(4, "days 2 3;", 2, 0), -1);
        C.due("another fault", backAfter(1, "days 2 3;", 1, 0), -1);
        C.due("without a law, today", backAfter(0, "", 1, 0), 0);
        C.due("without a law, tomorrow", backAfter(1, "", 1, 0), -1);
        HorseFair x = Checks.fair(2, 100);
        C.due("back of no sale", x.back(0), -1);
        C.due("back(1)", x.back(1), -1);
        C.due("back(-1)", x.back(-1), -1);
        C.due("trace(1)", x.trace(1), -1);
        C.due("trace(-1)", x.trace(-1), -1);
        x.sell(0, 1, 10, 0, 0);
        C.due("without a fault", x.back(0), -1);
        C.due("trace without a fault", x.trace(0), 0);
        C.due("holder", x.about(0, 0), 1);
        C.due("hands", x.about(0, 4), 2);
    }

    private static void warrants() {
        C.due("warranted", backAfter(5, "warrant 3 5;", 3, 8), 0);
        C.due("too late", backAfter(6, "warrant 3 5;", 3, 8), -1);
        C.due("not warranted", backAfter(5, "warrant 3 5;", 3, 4), -1);
        C.due("warrant, not days", backAfter(5, "days 3 9; warrant 3 4;", 3, 8), -1);
        C.due("days, not warrant", backAfter(5, "days 3 4; warrant 3 9;", 3, 55), -1);
        C.due("no rule of the warrant", backAfter(1, "days 3 9;", 3, 8), -1);
        C.due("the highest warrant", backAfter(5, "warrant 5 5;", 5, 32), 0);
        C.due("the lowest warrant", backAfter(5, "warrant 0 5;", 0, 1), 0);
    }

    private static void faultMustBeOld() {
        HorseFair x = Checks.fair(2, 100);
        Checks.law(x, 0, "days 0 9;days 1 3;");
        Checks.pass(x, 3);
        x.sell(0, 1, 10, 0, 0);
        Checks.pass(x, 2);
        x.find(0, 0, 4);
        C.due("since behind the sale", x.back(0), -1);
        x.find(0, 1, 3);
        C.due("since the day of the sale", x.back(0), 0);
        C.due("undone but once", x.back(0), -1);
        HorseFair y = Checks.fair(2, 100);
        Checks.law(y, 0, "days 0 9;days 1 1;");
        y.sell(0, 1, 10, 0, 0);
        Checks.pass(y, 2);
        y.find(0, 1, 0);
        C.due("one fault is too late", y.back(0), -1);
        y.find(0, 0, 1);
        C.due("one fault is too new, one too late", y.back(0), -1);
    }

    private static void lawOfToday() {
        HorseFair x = Checks.fair(2, 100);
        Checks.law(x, 0, "days 0 9;");
        x.sell(0, 1, 10, 0, 0);
        x.find(0, 0, 0);
        Checks.pass(x, 2);
        Checks.law(x, 0, "days 0 1;");
        C.due("the law is another now", x.back(0), -1);
        Checks.law(x, 1, "days 0 9;");
        C.due("of another land", x.back(0), -1);
        Checks.law(x, 0, "days 0 2;");
        C.due("of its land", x.back(0), 0);
    }

    private static void buyerMustHold() {
        HorseFair x = Checks.fair(3, 100);
        x.find(0, 0, 0);
        x.sell(0, 1, 10, 0, 0);
        x.steal(0, 2);
        C.due("a thief has it", x.back(0), -1);
        x.steal(0, 1);
        C.due("the buyer has it again", x.back(0), 0);
        C.dueAll("about", w -> x.about(0, w), 0, 0, -1, 1, 5);
    }

    private static void titleGoesBack() {
        HorseFair x = Checks.fair(3, 100);
        x.find(0, 0, 0);
        x.sell(0, 1, 10, 0, 0);
        x.sell(0, 2, 20, 0, 0);
        C.due("back", x.back(0), 1);
        C.dueAll("about", w -> x.about(0, w), 1, 1, 0, 1, 4);
        C.due("seller", x.purse(1, 0), 90);
        C.due("buyer", x.purse(2, 0), 100);
        C.due("back", x.back(0), 0);
        C.dueAll("about", w -> x.about(0, w), 0, 0, -1, 1, 5);
        C.due("back", x.back(0), -1);
        C.dueAll("a titleless one", w -> thiefGetsBack().about(0, w), 1, 0, -1, 1, 4);
        HorseFair y = openedThenBack();
        C.dueAll("by open", w -> y.about(0, w), 1, 1, -1, 1, 4);
    }

    private static HorseFair thiefGetsBack() {
        HorseFair x = Checks.fair(3, 100);
        x.find(0, 0, 0);
        x.steal(0, 1);
        x.sell(0, 2, 20, 0, 0);
        C.due("back to the thief", x.back(0), 0);
        return x;
    }

    private static HorseFair openedThenBack() {
        HorseFair x = Checks.fair(3, 100);
        x.find(0, 0, 0);
        Checks.law(x, 0, "open 1; days 0 1;");
        x.steal(0, 1);
        x.sell(0, 2, 20, 0, 0);
        C.due("title", x.about(0, 1), 0);
        x.next();
        C.due("title by open", x.about(0, 1), 2);
        C.due("back to the thief", x.back(0), 0);
        return x;
    }

    private static void titleStaysWithItsOwner() {
        HorseFair x = Checks.fair(3, 100);
        x.find(0, 0, 0);
        x.steal(0, 1);
        x.sell(0, 0, 20, 0, 0);
        C.dueAll("bought one's own horse", w -> x.about(0, w), 0, 0, 0, 1, 3);
        C.due("back to the thief", x.back(0), 0);
        C.dueAll("the title was not by that sale", w -> x.about(0, w), 1, 0, -1, 1, 4);
        x.sell(0, 2, 30, 0, 0);
        C.due("apart since the way back", x.claim(0), 1);
        C.dueAll("claimed", w -> x.about(0, w), 0, 0, -1, 1, 6);
    }

    private static void traces() {
        HorseFair x = Checks.fair(5, 100);
        Checks.law(x, 0, "days 1 4;");
        x.find(0, 1, 0);
        x.sell(0, 1, 10, 0, 1);
        x.sell(0, 2, 20, 0, 0);
        Checks.pass(x, 2);
        x.sell(0, 3, 30, 0, 0);
        x.sell(0, 4, 40, 0, 0);
        x.horse(2);
        x.sell(1, 0, 5, 0, 0);
        Checks.pass(x, 2);
        C.due("as far as it can be", x.trace(0), 3);
        C.dueAll("about", w -> x.about(0, w), 1, 1, 0, 2, 8);
        C.due("another horse", x.about(1, 2), 4);
        C.due("again", x.trace(0), 0);
        C.due("stands", x.count(4), 2);
        for (int i = 5; i < 8; i++) {
            int place = i;
            C.dueAll("hand " + i, w -> x.hand(0, place, w), 8 - place, 4, 2);
        }
    }
}
