/** Promises 7 to 9, 17 and 20: person, coin, horse, about, purse. */
public final class PeopleTest {
    private static final Checks C = new Checks("PeopleTest");

    public static void main(String[] args) {
        people();
        coins();
        penceInAll();
        horses();
        wrongOnes();
        C.close();
    }

    private static void people() {
        HorseFair x = new HorseFair();
        C.due("person(-1)", x.person(-1), -1);
        C.due("person(1000001)", x.person(1000001), -1);
        C.due("person(max)", x.person(Integer.MAX_VALUE), -1);
        C.due("person(min)", x.person(Integer.MIN_VALUE), -1);
        for (int p = 0; p < 16; p++) {
            C.due("person " + p, x.person(p == 0 ? 0 : 1000000), p);
            C.due("count(1)", x.count(1), p + 1);
        }
        C.due("a 17th", x.person(0), -1);
        C.due("count(1)", x.count(1), 16);
        C.dueAll("purse(0)", w -> x.purse(0, w), 0, 0, 0, 0, 0);
        C.dueAll("purse(15)", w -> x.purse(15, w), 1000000, 0, 0, 0, 0);
    }

    private static void coins() {
        HorseFair x = new HorseFair();
        C.due("coin of none", x.coin(0, 5), -1);
        x.person(7);
        C.due("coin", x.coin(0, 1), 8);
        C.due("coin", x.coin(0, 1000000), 1000008);
        C.due("coin of 0", x.coin(0, 0), -1);
        C.due("coin below 0", x.coin(0, -1), -1);
        C.due("coin above", x.coin(0, 1000001), -1);
        C.due("coin max", x.coin(0, Integer.MAX_VALUE), -1);
        C.due("coin of 1", x.coin(1, 5), -1);
        C.due("coin of -1", x.coin(-1, 5), -1);
        C.due("pence", x.purse(0, 0), 1000008);
    }

    /** Beyond the 512 calls that are promised, but the limit is told. */
    private static void penceInAll() {
        HorseFair x = new HorseFair();
        x.person(1);
        x.person(0);
        for (int i = 0; i < 999; i++) {
            x.coin(i % 2, 1000000);
        }
        C.due("above in all", x.coin(0, 1000000), -1);
        C.due("above in all", x.person(1000000), -1);
        C.due("just in all", x.coin(1, 999998), 499 * 1000000 + 999998);
        C.due("two more", x.person(2), -1);
        C.due("one more", x.person(1), 2);
        C.due("no coin more", x.coin(2, 1), -1);
        C.due("one without pence", x.person(0), 3);
    }

    private static void horses() {
        HorseFair x = new HorseFair();
        C.due("horse of none", x.horse(0), -1);
        x.person(0);
        x.person(0);
        C.due("horse(-1)", x.horse(-1), -1);
        C.due("horse(2)", x.horse(2), -1);
        x.next();
        for (int h = 0; h < 40; h++) {
            C.due("horse " + h, x.horse(h % 3 == 0 ? 1 : 0), h);
            C.due("count(2)", x.count(2), h + 1);
        }
        C.due("a 41st", x.horse(0), -1);
        C.due("count(2)", x.count(2), 40);
        C.due("count(7)", x.count(7), 40);
        C.dueAll("about(39)", w -> x.about(39, w), 1, 1, -1, 0, 1);
        C.dueAll("about(38)", w -> x.about(38, w), 0, 0, -1, 0, 1);
        C.dueAll("hand(38, 0)", w -> x.hand(38, 0, w), 0, 1, 0);
        C.dueAll("purse(0)", w -> x.purse(0, w), 0, 0, 0, 26, 26);
        C.dueAll("purse(1)", w -> x.purse(1, w), 0, 0, 0, 14, 14);
        C.due("a day with 40 horses", x.next(), 2);
    }

    private static void wrongOnes() {
        HorseFair x = new HorseFair();
        x.person(5);
        x.horse(0);
        for (int wrong : new int[] {-1, 5, Integer.MIN_VALUE, Integer.MAX_VALUE}) {
            C.noSuch("about(0, " + wrong + ")", () -> x.about(0, wrong));
            C.noSuch("purse(0, " + wrong + ")", () -> x.purse(0, wrong));
            C.noSuch("about(" + wrong + ", 0)", () -> x.about(wrong, 0));
            C.noSuch("purse(" + wrong + ", 0)", () -> x.purse(wrong, 0));
        }
        C.noSuch("about(1, 0)", () -> x.about(1, 0));
        C.noSuch("purse(1, 0)", () -> x.purse(1, 0));
    }
}
