/** Promises 7 to 16, and the terms of sales, debts and titles: on both sides of each bound that the document names. */
public final class TradeEdgesTest {
    private static final Checks C = new Checks("TradeEdgesTest");
    private static final int LEAST = Integer.MIN_VALUE;
    private static final int MOST = Integer.MAX_VALUE;

    public static void main(String[] args) {
        personWith0To1000000();
        sixteenPeople();
        coinOf1To1000000();
        penceThatCameInAll();
        penceThatWentStillCame();
        fortyHorses();
        horseOfOneThatIsThere();
        sellToAnotherThatIsThere();
        sellInALandForAPriceWithWarrants();
        sellForWhatTheBuyerHas();
        eightySales();
        theFirstReasonIsTold();
        tollIsCut();
        tollOfTheLawNow();
        findFaults0To5();
        findSince0ToToday();
        findOnce();
        stealByAnotherThatIsThere();
        daysFrom0To999();
        C.close();
    }

    private static int bit(boolean answer) {
        return answer ? 1 : 0;
    }

    /** "One more of PEOPLE, with PENCE (0 to 1000000)"; "it is not as told". */
    private static void personWith0To1000000() {
        HorseFair x = new HorseFair();
        for (int pence : new int[] {LEAST, -1000000, -1, 1000001, 1000002, MOST}) {
            C.refused(x, "person(" + pence + ")", -1, () -> x.person(pence));
        }
        int[] taken = {0, 1, 999999, 1000000};
        for (int p = 0; p < taken.length; p++) {
            C.due("person", x.person(taken[p]), p);
            C.dueAll("purse", purseOf(x, p), taken[p], 0, 0, 0, 0);
        }
        C.due("people", x.count(1), 4);
    }

    private static java.util.function.IntUnaryOperator purseOf(HorseFair x, int p) {
        return what -> x.purse(p, what);
    }

    /** "PEOPLE 0 .. 15"; "NONE: there are 16". */
    private static void sixteenPeople() {
        HorseFair x = new HorseFair();
        for (int p = 0; p < 16; p++) {
            C.due("person", x.person(p), p);
        }
        C.refused(x, "a 17th", -1, () -> x.person(0));
        C.refused(x, "a 17th again", -1, () -> x.person(1));
        C.due("the last one's coin", x.coin(15, 1), 16);
        C.refused(x, "coin(16, 1)", -1, () -> x.coin(16, 1));
        C.due("the last one's horse", x.horse(15), 0);
        C.refused(x, "horse(16)", -1, () -> x.horse(16));
        C.refused(x, "sell to 16", -2, () -> x.sell(0, 16, 0, 0, 0));
        C.refused(x, "steal by 16", 0, () -> bit(x.steal(0, 16)));
        C.due("sell to the first", x.sell(0, 0, 0, 0, 0), 0);
        C.due("steal by the last", x.steal(0, 15), true);
        C.refusedNoSuch(x, "purse(16, 0)", () -> x.purse(16, 0));
    }

    /** "One has so many PENCE more (1 to 1000000)"; "no such one, it is not as told". */
    private static void coinOf1To1000000() {
        HorseFair x = new HorseFair();
        x.person(0);
        x.person(5);
        for (int pence : new int[] {LEAST, -1000000, -1, 0, 1000001, MOST}) {
            C.refused(x, "coin(0, " + pence + ")", -1, () -> x.coin(0, pence));
        }
        for (int p : new int[] {LEAST, -1, 2, 15, 16, MOST}) {
            C.refused(x, "coin(" + p + ", 1)", -1, () -> x.coin(p, 1));
        }
        C.due("coin(0, 1)", x.coin(0, 1), 1);
        C.due("coin(1, 1000000)", x.coin(1, 1000000), 1000005);
        C.due("coin(0, 999999)", x.coin(0, 999999), 1000000);
        C.due("more than one may come with", x.coin(0, 1), 1000001);
    }

    /** A fair to which so many pence came, all with 0, and people 0 to 2. */
    private static HorseFair rich(int pence) {
        HorseFair x = new HorseFair();
        x.person(0);
        x.person(0);
        x.person(0);
        for (int left = pence; left > 0; left -= Math.min(left, 1000000)) {
            x.coin(0, Math.min(left, 1000000));
        }
        return x;
    }

    /** "PENCE that came in all would be above 1000000000": it takes more than 512 calls, but it is told. */
    private static void penceThatCameInAll() {
        HorseFair x = rich(999999999);
        C.refused(x, "two more by coin", -1, () -> x.coin(1, 2));
        C.refused(x, "two more with a person", -1, () -> x.person(2));
        C.refused(x, "many more", -1, () -> x.coin(1, 1000000));
        C.due("one more by coin", x.coin(1, 1), 1);
        C.refused(x, "one above by coin", -1, () -> x.coin(1, 1));
        C.refused(x, "one above with a person", -1, () -> x.person(1));
        C.due("a person without pence", x.person(0), 3);
        HorseFair y = rich(999000000);
        C.due("just so many with a person", y.person(1000000), 3);
        C.refused(y, "one above by coin", -1, () -> y.coin(3, 1));
        HorseFair z = rich(999000001);
        C.refused(z, "one above with a person", -1, () -> z.person(1000000));
        C.refused(z, "one above by coin", -1, () -> z.coin(0, 1000000));
        C.due("just so many by coin", z.coin(0, 999999), 1000000000);
    }

    /** Those in a CHEST came too. */
    private static void penceThatWentStillCame() {
        HorseFair x = rich(1000000000);
        Checks.law(x, 0, "toll 999;");
        x.horse(1);
        C.due("sell", x.sell(0, 0, 100000, 0, 0), 0);
        C.due("chest", x.rule(0, 14), 99900);
        C.refused(x, "one more", -1, () -> x.coin(0, 1));
    }

    /** "HORSES 0 .. 39"; "NONE: there are 40". */
    private static void fortyHorses() {
        HorseFair x = new HorseFair();
        x.person(9);
        x.person(9);
        for (int h = 0; h < 40; h++) {
            int horse = h;
            C.refused(x, "find of one to come", 0, () -> bit(x.find(horse, 0, 0)));
            C.due("horse", x.horse(h % 2), h);
        }
        C.refused(x, "a 41st", -1, () -> x.horse(0));
        C.refused(x, "a 41st", -1, () -> x.horse(1));
        C.due("find of the last", x.find(39, 0, 0), true);
        C.due("sell of the last", x.sell(39, 0, 1, 0, 0), 0);
        C.due("back of the last", x.back(39), 0);
        C.due("steal of the last", x.steal(39, 0), true);
        C.due("claim of the last", x.claim(39), 0);
        C.due("trace of the last", x.trace(39), 0);
        C.refused(x, "find(40, 0, 0)", 0, () -> bit(x.find(40, 0, 0)));
        C.refused(x, "sell(40, ..)", -2, () -> x.sell(40, 0, 0, 0, 0));
        C.refused(x, "back(40)", -1, () -> x.back(40));
        C.refused(x, "trace(40)", -1, () -> x.trace(40));
        C.refused(x, "steal(40, 0)", 0, () -> bit(x.steal(40, 0)));
        C.refused(x, "claim(40)", -1, () -> x.claim(40));
        C.refusedNoSuch(x, "about(40, 0)", () -> x.about(40, 0));
        C.refusedNoSuch(x, "fault(40, 0, 0)", () -> x.fault(40, 0, 0));
        C.refusedNoSuch(x, "hand(40, 0, 0)", () -> x.hand(40, 0, 0));
        C.due("the first is there", x.sell(0, 1, 1, 0, 0), 1);
    }

    /** "NONE: .. or no such one." */
    private static void horseOfOneThatIsThere() {
        HorseFair x = new HorseFair();
        for (int people = 0; people <= 2; people++) {
            for (int p : new int[] {LEAST, -1, people, people + 1, 15, 16, MOST}) {
                C.refused(x, "horse(" + p + ")", -1, () -> x.horse(p));
            }
            x.person(0);
            C.due("horse of the last one", x.horse(people), people);
        }
    }

    /** "1 no such HORSE, buyer, or the HOLDER is the buyer". */
    private static void sellToAnotherThatIsThere() {
        HorseFair x = Checks.fair(3, 10);
        x.horse(2);
        for (int wrong : new int[] {LEAST, -1, 2, 39, 40, MOST}) {
            C.refused(x, "sell(" + wrong + ", 1, ..)", -2, () -> x.sell(wrong, 1, 0, 0, 0));
        }
        for (int wrong : new int[] {LEAST, -1, 3, 15, 16, MOST}) {
            C.refused(x, "sell(0, " + wrong + ", ..)", -2, () -> x.sell(0, wrong, 0, 0, 0));
        }
        C.refused(x, "the holder", -2, () -> x.sell(0, 0, 0, 0, 0));
        C.refused(x, "the holder", -2, () -> x.sell(1, 2, 0, 0, 0));
        C.due("another", x.sell(0, 2, 0, 0, 0), 0);
        C.refused(x, "the holder now", -2, () -> x.sell(0, 2, 0, 0, 0));
        C.due("the holder ahead", x.sell(0, 0, 0, 0, 0), 1);
        x.steal(0, 1);
        C.refused(x, "a thief is the holder", -2, () -> x.sell(0, 1, 0, 0, 0));
        C.due("the owner may buy", x.sell(0, 0, 0, 0, 0), 2);
    }

    /** "2 no such LAND, a price that is not 0 to 100000, WARRANTS not 0 to 63". */
    private static void sellInALandForAPriceWithWarrants() {
        HorseFair x = Checks.fair(2, 1000000);
        for (int land : new int[] {LEAST, -1, 3, 4, MOST}) {
            C.refused(x, "land " + land, -3, () -> x.sell(0, 1, 0, 0, land));
        }
        for (int price : new int[] {LEAST, -100000, -1, 100001, 1000000, MOST}) {
            C.refused(x, "price " + price, -3, () -> x.sell(0, 1, price, 0, 0));
        }
        for (int warrants : new int[] {LEAST, -64, -1, 64, 127, 128, MOST}) {
            C.refused(x, "warrants " + warrants, -3, () -> x.sell(0, 1, 0, warrants, 0));
        }
        int[][] taken = {{0, 0, 0}, {100000, 63, 2}, {1, 1, 1}, {99999, 62, 0}, {0, 32, 2}, {100000, 0, 0}};
        for (int k = 0; k < taken.length; k++) {
            int[] terms = taken[k];
            int sale = k;
            C.due("sell", x.sell(0, 1 - k % 2, terms[0], terms[1], terms[2]), k);
            C.dueAll("sale", w -> x.sale(sale, w), 0, k % 2, 1 - k % 2, terms[0], terms[1], terms[2], 0, 0);
        }
    }

    /** "3 the buyer has not so many PENCE". */
    private static void sellForWhatTheBuyerHas() {
        for (int pence : new int[] {0, 1, 50, 99999}) {
            HorseFair x = Checks.fair(1, 0);
            x.person(pence);
            C.refused(x, "one too dear", -4, () -> x.sell(0, 1, pence + 1, 0, 0));
            C.refused(x, "the dearest", -4, () -> x.sell(0, 1, 100000, 0, 0));
            C.due("all one has", x.sell(0, 1, pence, 0, 0), 0);
            C.due("buyer", x.purse(1, 0), 0);
            C.due("seller", x.purse(0, 0), pence);
        }
        HorseFair y = Checks.fair(2, 100000);
        C.due("the dearest", y.sell(0, 1, 100000, 0, 0), 0);
        C.due("seller", y.purse(0, 0), 200000);
    }

    /** "A SALE (80 at most)"; "4 there are 80". */
    private static void eightySales() {
        HorseFair x = Checks.fair(2, 100);
        x.horse(1);
        for (int k = 0; k < 80; k++) {
            C.due("sell", x.sell(0, 1 - k % 2, 1, 0, 0), k);
        }
        C.refused(x, "an 81st", -5, () -> x.sell(0, 1, 1, 0, 0));
        C.refused(x, "an 81st of another horse", -5, () -> x.sell(1, 0, 0, 0, 0));
        x.find(0, 0, 0);
        C.due("one is undone", x.back(0), 79);
        C.due("sales that stand", x.count(4), 79);
        C.refused(x, "it was a sale all the same", -5, () -> x.sell(0, 0, 1, 0, 0));
        C.due("all are undone", x.trace(0), 79);
        C.due("none stands", x.count(4), 0);
        C.due("pence", x.purse(0, 0), 100);
        C.refused(x, "no more", -5, () -> x.sell(0, 1, 1, 0, 0));
        C.due("steal goes on", x.steal(0, 1), true);
        C.due("claim goes on", x.claim(0), 0);
    }

    /** "-1 less why not, the first of". */
    private static void theFirstReasonIsTold() {
        HorseFair x = Checks.fair(2, 10);
        for (int k = 0; k < 80; k++) {
            x.sell(0, 1 - k % 2, 0, 0, 0);
        }
        C.refused(x, "1 ahead of 2, 3, 4", -2, () -> x.sell(1, 1, 100001, 64, 3));
        C.refused(x, "1 ahead of 2, 3, 4", -2, () -> x.sell(0, 2, 100001, 64, 3));
        C.refused(x, "1 ahead of 2, 3, 4", -2, () -> x.sell(0, 0, 100001, 64, 3));
        C.refused(x, "1 ahead of 3, 4", -2, () -> x.sell(0, 0, 11, 0, 0));
        C.refused(x, "1 ahead of 4", -2, () -> x.sell(0, 0, 10, 0, 0));
        C.refused(x, "2 ahead of 3, 4", -3, () -> x.sell(0, 1, 11, 0, 3));
        C.refused(x, "2 ahead of 3, 4", -3, () -> x.sell(0, 1, 11, 64, 0));
        C.refused(x, "2 ahead of 3, 4", -3, () -> x.sell(0, 1, 100001, 0, 0));
        C.refused(x, "2 ahead of 4", -3, () -> x.sell(0, 1, -1, 0, 0));
        C.refused(x, "3 ahead of 4", -4, () -> x.sell(0, 1, 11, 0, 0));
        C.refused(x, "4 alone", -5, () -> x.sell(0, 1, 10, 63, 2));
    }

    /** "price times toll by 1000, cut, that goes to the LAND's CHEST". */
    private static void tollIsCut() {
        int[][] tolls = {{0, 100000, 0}, {1, 999, 0}, {1, 1000, 1}, {1, 1001, 1}, {1, 1999, 1}, {1, 2000, 2}, {999, 0, 0},
            {999, 1, 0}, {999, 2, 1}, {999, 1000, 999}, {999, 1001, 999}, {999, 1002, 1000}, {500, 1, 0}, {500, 2, 1},
            {500, 3, 1}, {999, 100000, 99900}, {999, 99999, 99899}, {334, 3, 1}, {333, 3, 0}};
        for (int[] toll : tolls) {
            HorseFair x = Checks.fair(2, 100000);
            Checks.law(x, 2, "toll " + toll[0] + ";");
            C.due("sell", x.sell(0, 1, toll[1], 0, 2), 0);
            C.due("chest at toll " + toll[0] + " of " + toll[1], x.rule(2, 14), toll[2]);
            C.due("other chests", x.rule(0, 14) + x.rule(1, 14), 0);
            C.due("seller", x.purse(0, 0), 100000 + toll[1] - toll[2]);
            C.due("buyer", x.purse(1, 0), 100000 - toll[1]);
            x.find(0, 0, 0);
            C.due("back", x.back(0), 0);
            C.due("the toll stays", x.rule(2, 14), toll[2]);
            C.due("seller", x.purse(0, 0), 100000 - toll[2]);
            C.due("buyer", x.purse(1, 0), 100000);
        }
    }

    private static void tollOfTheLawNow() {
        HorseFair x = Checks.fair(2, 1000);
        Checks.law(x, 0, "toll 100;");
        Checks.law(x, 1, "toll 900;");
        x.sell(0, 1, 10, 0, 0);
        C.due("chest", x.rule(0, 14), 1);
        Checks.law(x, 0, "");
        C.due("a new law leaves the chest", x.rule(0, 14), 1);
        x.sell(0, 0, 10, 0, 0);
        C.due("no toll now", x.rule(0, 14), 1);
        Checks.law(x, 0, "toll 200;");
        x.sell(0, 1, 10, 0, 0);
        C.due("toll now", x.rule(0, 14), 3);
        Checks.law(x, 0, "toll 300;toll 1;");
        x.sell(0, 0, 10, 0, 0);
        C.due("a law with a fault is none", x.rule(0, 14), 5);
        C.due("another land", x.rule(1, 14), 0);
    }

    /** "FAULTS 0 .. 5"; "false: no such ones". */
    private static void findFaults0To5() {
        HorseFair x = Checks.fair(1, 0);
        for (int f : new int[] {LEAST, -1, 6, 7, 32, MOST}) {
            C.refused(x, "find(0, " + f + ", 0)", 0, () -> bit(x.find(0, f, 0)));
            C.refusedNoSuch(x, "fault(0, " + f + ", 0)", () -> x.fault(0, f, 0));
        }
        for (int h : new int[] {LEAST, -1, 1, 39, 40, MOST}) {
            C.refused(x, "find(" + h + ", 0, 0)", 0, () -> bit(x.find(h, 0, 0)));
        }
        int bits = 0;
        for (int f = 5; f >= 0; f--) {
            C.due("find", x.find(0, f, 0), true);
            bits |= 1 << f;
            C.due("bits", x.about(0, 3), bits);
        }
        C.due("all", x.about(0, 3), 63);
    }

    /** "there SINCE a DAY (0 to DAY)". */
    private static void findSince0ToToday() {
        for (int day : new int[] {0, 1, 7}) {
            HorseFair x = Checks.fair(1, 0);
            Checks.pass(x, day);
            for (int since : new int[] {LEAST, -2, -1, day + 1, day + 2, 999, 1000, MOST}) {
                C.refused(x, "since " + since + " on " + day, 0, () -> bit(x.find(0, 0, since)));
            }
            C.due("since 0", x.find(0, 0, 0), true);
            C.dueAll("fault", w -> x.fault(0, 0, w), day, 0);
            C.due("since today", x.find(0, 1, day), true);
            C.dueAll("fault", w -> x.fault(0, 1, w), day, day);
        }
    }

    /** "or it was FOUND". */
    private static void findOnce() {
        HorseFair x = Checks.fair(2, 10);
        x.horse(1);
        C.due("find", x.find(0, 3, 0), true);
        C.refused(x, "again", 0, () -> bit(x.find(0, 3, 0)));
        x.next();
        C.refused(x, "on another day", 0, () -> bit(x.find(0, 3, 1)));
        C.due("another fault", x.find(0, 2, 1), true);
        C.due("another horse", x.find(1, 3, 1), true);
        x.sell(0, 1, 5, 0, 0);
        C.due("back", x.back(0), 0);
        C.refused(x, "behind a sale that is undone", 0, () -> bit(x.find(0, 3, 1)));
        C.dueAll("fault", w -> x.fault(0, 3, w), 0, 0);
    }

    /** "STOLEN: another one is HOLDER"; "false: no such ones, or that one is HOLDER". */
    private static void stealByAnotherThatIsThere() {
        HorseFair x = Checks.fair(3, 0);
        for (int h : new int[] {LEAST, -1, 1, 39, 40, MOST}) {
            C.refused(x, "steal(" + h + ", 1)", 0, () -> bit(x.steal(h, 1)));
        }
        for (int p : new int[] {LEAST, -1, 3, 15, 16, MOST}) {
            C.refused(x, "steal(0, " + p + ")", 0, () -> bit(x.steal(0, p)));
        }
        C.refused(x, "the holder", 0, () -> bit(x.steal(0, 0)));
        C.due("another", x.steal(0, 2), true);
        C.refused(x, "the holder now", 0, () -> bit(x.steal(0, 2)));
        C.dueAll("about", w -> x.about(0, w), 2, 0, -1, 0, 2);
        C.due("the owner", x.steal(0, 0), true);
        C.dueAll("about", w -> x.about(0, w), 0, 0, -1, 0, 3);
    }

    /** "DAY is 0 at first, 999 the last one"; "NONE: it is 999". */
    private static void daysFrom0To999() {
        HorseFair x = Checks.fair(3, 100);
        Checks.law(x, 0, "open 999;days 0 999;");
        Checks.law(x, 1, "open 998;");
        x.find(0, 0, 0);
        x.steal(0, 1);
        x.sell(0, 2, 50, 0, 0);
        x.horse(0);
        x.steal(1, 1);
        x.next();
        x.sell(1, 2, 50, 0, 1);
        for (int d = 2; d <= 998; d++) {
            C.due("next", x.next(), d);
        }
        C.due("title of one ahead of its last day", x.about(0, 1), 0);
        C.due("title of one ahead of its last day", x.about(1, 1), 0);
        C.due("the last day", x.next(), 999);
        C.due("open of 999", x.about(0, 1), 2);
        C.due("open of 998", x.about(1, 1), 2);
        C.refused(x, "behind the last day", -1, x::next);
        C.refused(x, "and again", -1, x::next);
        C.due("found on the last day", x.find(1, 0, 999), true);
        C.refused(x, "since the day behind it", 0, () -> bit(x.find(1, 1, 1000)));
        C.due("days of 999", x.back(0), 0);
        C.dueAll("the last hand", w -> x.hand(0, 3, w), 1, 999, 2);
    }
}
