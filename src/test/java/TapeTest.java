/** Promises 1 to 3: a new object, feed, end. */
public final class TapeTest {
    public static void main(String[] args) {
        Checks checks = new Checks("TapeTest");
        newObject(checks);
        feedAndEnd(checks);
        orderOfBytes(checks);
        checks.close();
    }

    private static void newObject(Checks c) {
        HorseFair x = new HorseFair();
        c.dueAll("count of a new one", x::count, 0, 0, 0, 0, 0, 0, 0, 0, -1);
        c.due("wrong of a new one", x.wrong(), 0);
        for (int l = 0; l < 3; l++) {
            int land = l;
            c.dueAll("rule of land " + l, what -> x.rule(land, what), 0, 0, 0, 0, 0, 0, 0, 0, 0, 0, 0, 0, 0, 0, 0, -1);
        }
        c.noSuch("about(0, 0)", () -> x.about(0, 0));
        c.noSuch("purse(0, 0)", () -> x.purse(0, 0));
        c.noSuch("sale(0, 0)", () -> x.sale(0, 0));
        c.noSuch("debt(0, 0)", () -> x.debt(0, 0));
        c.noSuch("hand(0, 0, 0)", () -> x.hand(0, 0, 0));
    }

    private static void feedAndEnd(Checks c) {
        HorseFair x = new HorseFair();
        for (int n = 20; n <= 320; n += 20) {
            c.due("feed to " + n, x.feed(0, 0, 0, 0, 0), n);
        }
        c.due("feed over 320", x.feed(0, 0, 0, 0, 0), -1);
        c.due("count(6)", x.count(6), 320);
        c.due("end(321)", x.end(321), false);
        c.due("end(-1)", x.end(-1), false);
        c.due("end(min)", x.end(Integer.MIN_VALUE), false);
        c.due("end(max)", x.end(Integer.MAX_VALUE), false);
        c.due("count(6) behind wrong ends", x.count(6), 320);
        c.due("end(320)", x.end(320), true);
        c.due("end(301)", x.end(301), true);
        c.due("feed behind 301", x.feed(0, 0, 0, 0, 0), -1);
        c.due("count(6)", x.count(6), 301);
        c.due("end(300)", x.end(300), true);
        c.due("end(301) behind 300", x.end(301), false);
        c.due("feed behind 300", x.feed(0, 0, 0, 0, 0), 320);
        c.due("end(0)", x.end(0), true);
        c.due("end(1) of none", x.end(1), false);
        c.due("count(6)", x.count(6), 0);
    }

    private static void orderOfBytes(Checks c) {
        HorseFair x = new HorseFair();
        c.due("feed", x.feed(0x746F6C6C, 0x20313233, 0x3B6F7065, 0x6E203435, 0x363B2020), 20);
        c.due("law", x.law(2), 2);
        c.due("toll", x.rule(2, 0), 123);
        c.due("open", x.rule(2, 1), 456);
        c.due("the tape is empty", x.count(6), 0);
        // What end() cut off is not there when more comes.
        c.due("feed", x.feed(0x746F6C6C, 0x20393938, 0, 0, 0), 20);
        c.due("end(6)", x.end(6), true);
        c.due("feed", x.feed(0x373B2020, 0x20202020, 0x20202020, 0x20202020, 0x20202020), 26);
        c.due("law", x.law(2), 1);
        c.due("toll", x.rule(2, 0), 97);
    }
}
