/** Promises 10 and 19: sell, sale. */
public final class SellTest {
    private static final Checks C = new Checks("SellTest");

    public static void main(String[] args) {
        reasons();
        tolls();
        sales();
        titleGoesAlong();
        eighty();
        C.close();
    }

    private static void reasons() {
        HorseFair x = new HorseFair();
        C.due("nothing is there", x.sell(0, 0, 0, 0, 0), -2);
        x.person(10);
        x.person(10);
        x.horse(0);
        C.due("no such horse", x.sell(1, 1, -1, -1, 9), -2);
        C.due("no such horse", x.sell(-1, 1, 0, 0, 0), -2);
        C.due("no such buyer", x.sell(0, 2, -1, 0, 0), -2);
        C.due("no such buyer", x.sell(0, -1, 0, 0, 0), -2);
        C.due("holder buys", x.sell(0, 0, 0, 0, 0), -2);
        C.due("no such land", x.sell(0, 1, 11, 0, 3), -3);
        C.due("no such land", x.sell(0, 1, 0, 0, -1), -3);
        C.due("price", x.sell(0, 1, -1, 0, 0), -3);
        C.due("price", x.sell(0, 1, 100001, 0, 0), -3);
        C.due("price", x.sell(0, 1, Integer.MIN_VALUE, 0, 0), -3);
        C.due("warrants", x.sell(0, 1, 11, 64, 0), -3);
        C.due("warrants", x.sell(0, 1, 0, -1, 0), -3);
        C.due("too dear", x.sell(0, 1, 11, 63, 2), -4);
        C.due("too dear", x.sell(0, 1, 100000, 0, 0), -4);
        C.due("count(3)", x.count(3), 0);
        C.due("holder", x.about(0, 0), 0);
        C.due("hands", x.count(7), 1);
        C.due("just so many", x.sell(0, 1, 10, 63, 2), 0);
        C.due("pence", x.purse(1, 0), 0);
        C.due("pence", x.purse(0, 0), 20);
    }

    private static void tolls() {
        HorseFair x = new HorseFair();
        x.person(1000000);
        x.person(1000000);
        x.horse(0);
        Checks.law(x, 0, "toll 999;");
        Checks.law(x, 1, "toll 1;");
        C.due("sell", x.sell(0, 1, 100000, 0, 0), 0);
        C.due("chest", x.rule(0, 14), 99900);
        C.due("seller", x.purse(0, 0), 1000100);
        C.due("buyer", x.purse(1, 0), 900000);
        C.due("sell", x.sell(0, 0, 1999, 0, 1), 1);
        C.due("cut", x.rule(1, 14), 1);
        C.due("seller", x.purse(1, 0), 901998);
        C.due("sell", x.sell(0, 1, 999, 0, 1), 2);
        C.due("cut to nothing", x.rule(1, 14), 1);
        C.due("sell", x.sell(0, 0, 1000, 0, 2), 3);
        C.due("no toll", x.rule(2, 14), 0);
        C.due("a new law keeps the chest", Checks.law(x, 0, "toll 500;"), 1);
        C.due("chest", x.rule(0, 14), 99900);
        C.due("sell", x.sell(0, 1, 3, 0, 0), 4);
        C.due("chest", x.rule(0, 14), 99901);
        C.due("chest of another", x.rule(1, 14), 1);
    }

    private static void sales() {
        HorseFair x = new HorseFair();
        x.person(50);
        x.person(60);
        x.person(70);
        x.horse(2);
        x.horse(1);
        x.next();
        x.next();
        C.due("sell", x.sell(1, 2, 33, 37, 1), 0);
        x.next();
        C.due("sell", x.sell(0, 0, 0, 63, 2), 1);
        C.dueAll("sale(0)", w -> x.sale(0, w), 1, 1, 2, 33, 37, 1, 2, 0);
        C.dueAll("sale(1)", w -> x.sale(1, w), 0, 2, 0, 0, 63, 2, 3, 0);
        C.dueAll("about(0)", w -> x.about(0, w), 0, 0, 1, 0, 2);
        C.dueAll("about(1)", w -> x.about(1, w), 2, 2, 0, 0, 2);
        C.due("count(3)", x.count(3), 2);
        C.due("count(4)", x.count(4), 2);
        for (int wrong : new int[] {-1, 8, Integer.MIN_VALUE, Integer.MAX_VALUE}) {
            C.noSuch("sale(0, " + wrong + ")", () -> x.sale(0, wrong));
            C.noSuch("sale(" + wrong + ", 0)", () -> x.sale(wrong, 0));
        }
        C.noSuch("sale(2, 0)", () -> x.sale(2, 0));
        C.due("find", x.find(1, 0, 0), true);
        C.due("law", Checks.law(x, 1, "warrant 0 1;"), 1);
        C.due("back", x.back(1), 0);
        C.due("undone", x.sale(0, 7), 1);
        C.due("count(3)", x.count(3), 2);
        C.due("count(4)", x.count(4), 1);
    }

    private static void titleGoesAlong() {
        HorseFair x = new HorseFair();
        for (int p = 0; p < 4; p++) {
            x.person(100);
        }
        x.horse(0);
        x.sell(0, 1, 10, 0, 0);
        C.due("title with the sale", x.about(0, 1), 1);
        x.steal(0, 2);
        x.sell(0, 3, 10, 0, 0);
        C.due("holder", x.about(0, 0), 3);
        C.due("a thief gives no title", x.about(0, 1), 1);
        x.sell(0, 1, 10, 0, 0);
        C.due("together again", x.about(0, 0), 1);
        C.due("title", x.about(0, 1), 1);
        x.sell(0, 2, 10, 0, 0);
        C.due("title with the sale", x.about(0, 1), 2);
    }

    private static void eighty() {
        HorseFair x = new HorseFair();
        x.person(0);
        x.person(0);
        x.horse(0);
        for (int k = 0; k < 80; k++) {
            C.due("sale " + k, x.sell(0, 1 - k % 2, 0, 0, 0), k);
        }
        C.due("an 81st", x.sell(0, 1, 0, 0, 0), -5);
        C.due("too dear first", x.sell(0, 1, 1, 0, 0), -4);
        C.due("count(3)", x.count(3), 80);
        C.due("hands", x.about(0, 4), 81);
        x.find(0, 2, 0);
        C.due("trace", x.trace(0), 80);
        C.due("count(4)", x.count(4), 0);
        C.due("undone ones count", x.sell(0, 1, 0, 0, 0), -5);
    }
}
