/** Promises 22 and 23: hand, count. */
public final class HandTest {
    private static final Checks C = new Checks("HandTest");

    public static void main(String[] args) {
        allWays();
        fourHundred();
        noRoomForTheFirst();
        counts();
        C.close();
    }

    private static void allWays() {
        HorseFair x = new HorseFair();
        for (int p = 0; p < 4; p++) {
            x.person(100);
        }
        x.next();
        x.horse(3);
        x.horse(0);
        x.next();
        x.sell(1, 1, 10, 0, 0);
        x.find(1, 0, 0);
        x.sell(0, 2, 10, 0, 0);
        x.back(1);
        x.next();
        x.steal(1, 2);
        x.next();
        x.claim(1);
        C.due("hands of horse 1", x.about(1, 4), 5);
        C.due("hands of horse 0", x.about(0, 4), 2);
        C.due("count(7)", x.count(7), 7);
        C.dueAll("hand 0", w -> x.hand(1, 0, w), 0, 1, 0);
        C.dueAll("hand 1", w -> x.hand(1, 1, w), 1, 2, 1);
        C.dueAll("hand 2", w -> x.hand(1, 2, w), 0, 2, 2);
        C.dueAll("hand 3", w -> x.hand(1, 3, w), 2, 3, 3);
        C.dueAll("hand 4", w -> x.hand(1, 4, w), 0, 4, 4);
        C.dueAll("hand 1 of horse 0", w -> x.hand(0, 1, w), 2, 2, 1);
        for (int wrong : new int[] {-1, 5, Integer.MIN_VALUE, Integer.MAX_VALUE}) {
            C.noSuch("hand(1, " + wrong + ", 0)", () -> x.hand(1, wrong, 0));
            C.noSuch("hand(" + wrong + ", 0, 0)", () -> x.hand(wrong, 0, 0));
            C.noSuch("hand(1, 0, " + wrong + ")", () -> x.hand(1, 0, wrong));
        }
        C.noSuch("hand(1, 0, 3)", () -> x.hand(1, 0, 3));
        C.noSuch("hand(0, 2, 0)", () -> x.hand(0, 2, 0));
        C.noSuch("hand(2, 0, 0)", () -> x.hand(2, 0, 0));
    }

    private static void fourHundred() {
        HorseFair x = new HorseFair();
        x.person(0);
        x.person(0);
        x.horse(0);
        x.horse(1);
        for (int i = 1; i < 399; i++) {
            C.due("steal", x.steal(0, i % 2), true);
        }
        C.due("count(7)", x.count(7), 400);
        C.due("about", x.about(0, 4), 399);
        C.due("the last", x.hand(0, 398, 0), 0);
        C.due("steal", x.steal(0, 1), true);
        C.due("steal", x.steal(1, 0), true);
        C.due("holder", x.about(0, 0), 1);
        C.due("holder", x.about(1, 0), 0);
        C.due("count(7)", x.count(7), 400);
        C.due("about", x.about(0, 4), 399);
        C.due("about", x.about(1, 4), 1);
        C.noSuch("hand(0, 399, 0)", () -> x.hand(0, 399, 0));
        C.noSuch("hand(1, 1, 0)", () -> x.hand(1, 1, 0));
    }

    private static void noRoomForTheFirst() {
        HorseFair x = new HorseFair();
        x.person(0);
        x.person(0);
        x.horse(0);
        for (int i = 1; i < 400; i++) {
            x.steal(0, i % 2);
        }
        C.due("a horse behind 400", x.horse(1), 1);
        C.dueAll("about(1)", w -> x.about(1, w), 1, 1, -1, 0, 0);
        C.noSuch("hand(1, 0, 0)", () -> x.hand(1, 0, 0));
    }

    private static void counts() {
        HorseFair x = new HorseFair();
        x.person(0);
        x.person(90);
        x.person(0);
        x.horse(0);
        x.horse(2);
        x.find(0, 0, 0);
        x.sell(0, 1, 90, 0, 0);
        x.sell(1, 0, 90, 0, 0);
        x.back(0);
        x.next();
        x.feed(0, 0, 0, 0, 0);
        C.dueAll("count", x::count, 1, 3, 2, 2, 1, 1, 20, 5, -1);
        C.due("count(-1)", x.count(-1), -1);
        C.due("count(max)", x.count(Integer.MAX_VALUE), -1);
        C.due("count(min)", x.count(Integer.MIN_VALUE), -1);
    }
}
