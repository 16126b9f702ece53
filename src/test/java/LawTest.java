/** Promises 4 to 6: law, wrong, rule. */
public final class LawTest {
    private static final Checks C = new Checks("LawTest");

    public static void main(String[] args) {
        wholeLaw();
        lawsReplace();
        kindsOfFault();
        longTexts();
        wrongLands();
        C.close();
    }

    private static void wholeLaw() {
        HorseFair x = new HorseFair();
        String text = "toll 50;open 7;days 0 1;days 1 2;days 2 3;days 3 4;days 4 5;days 5 6;warrant 0 10;"
                + "warrant 1 20;warrant 2 30;warrant 3 40;warrant 4 50;warrant 5 999;";
        C.due("a whole law", Checks.law(x, 1, text), 14);
        C.due("wrong", x.wrong(), 0);
        C.dueAll("rule", w -> x.rule(1, w), 50, 7, 1, 2, 3, 4, 5, 6, 10, 20, 30, 40, 50, 999, 0, -1);
        C.due("rule(1, -1)", x.rule(1, -1), -1);
        C.due("rule(1, max)", x.rule(1, Integer.MAX_VALUE), -1);
        C.due("rule(1, min)", x.rule(1, Integer.MIN_VALUE), -1);
        C.due("another land", x.rule(0, 0), 0);
        C.due("another land", x.rule(2, 2), 0);
    }

    private static void lawsReplace() {
        HorseFair x = new HorseFair();
        C.due("toll, days", Checks.law(x, 0, "toll 5; days 3 9;"), 2);
        C.due("a fault", Checks.law(x, 0, "toll 6; days 3 8; warrant 1 1"), -30);
        C.due("it stays: toll", x.rule(0, 0), 5);
        C.due("it stays: days", x.rule(0, 5), 9);
        C.due("it stays: warrant", x.rule(0, 9), 0);
        C.due("tape is empty", x.count(6), 0);
        C.due("open alone", Checks.law(x, 0, "open 4;"), 1);
        C.due("toll is gone", x.rule(0, 0), 0);
        C.due("days are gone", x.rule(0, 5), 0);
        C.due("open", x.rule(0, 1), 4);
        C.due("an empty law", Checks.law(x, 0, ""), 0);
        C.due("open is gone", x.rule(0, 1), 0);
        C.due("blanks", Checks.law(x, 0, " \n \n"), 0);
        C.due("rules of 0 count", Checks.law(x, 0, "toll 0;open 000;"), 2);
    }

    private static void fault(String text, int place, int kind) {
        HorseFair x = new HorseFair();
        C.due("law of '" + text + "'", Checks.law(x, 0, text), -1 - place);
        C.due("wrong of '" + text + "'", x.wrong(), kind);
        C.due("no fault", Checks.law(x, 0, "toll 1;"), 1);
        C.due("wrong behind a good law", x.wrong(), 0);
    }

    private static void good(String text, int rules, int what, int number) {
        HorseFair x = new HorseFair();
        C.due("law of '" + text + "'", Checks.law(x, 0, text), rules);
        C.due("wrong of '" + text + "'", x.wrong(), 0);
        C.due("rule " + what + " of '" + text + "'", x.rule(0, what), number);
    }

    private static void kindsOfFault() {
        good("toll 1;", 1, 0, 1);
        good("\n toll\n001\n;\n", 1, 0, 1);
        good("days 005 5;", 1, 7, 5);
        good("days 5 5;warrant 5 6;", 2, 13, 6);
        fault("toll 1000;", 5, 1);
        fault("toll", 4, 1);
        fault("toll  ", 6, 1);
        fault("toll 5", 6, 1);
        fault("toll5;", 0, 1);
        fault("toll 5x;", 5, 1);
        fault("toll 5days 1 1;", 5, 1);
        fault("tolls 5;", 0, 1);
        fault("tol 5;", 0, 1);
        fault("tollz 5;", 0, 1);
        fault("tolla 5;", 0, 1);
        fault("toll 5z;", 5, 1);
        fault("goll 5;", 0, 1);
        fault("says 0 5;", 0, 1);
        fault("toll{5;", 4, 1);
        fault("toll`5;", 4, 1);
        fault("toll 5:", 6, 1);
        fault("toll 5/", 6, 1);
        fault("Toll 5;", 0, 1);
        fault("toLl 5;", 0, 1);
        fault("tollX", 4, 1);
        fault("toll;", 4, 1);
        fault("toll -5;", 5, 1);
        fault("toll 5.", 6, 1);
        fault("toll 5;;", 7, 1);
        fault(";", 0, 1);
        fault("5", 0, 1);
        fault("toll open 5;", 5, 1);
        fault("days 0;", 6, 1);
        fault("days 6 1;", 5, 2);
        fault("days 999 x;", 5, 2);
        fault("days 1000 1;", 5, 1);
        fault("days toll;", 5, 1);
        fault("warrant 7;", 8, 2);
        fault("days 1 2 3;", 9, 1);
        fault("toll\t5;", 4, 1);
        fault("toll\r5;", 4, 1);
        fault("toll " + (char) 181 + ";", 5, 1);
        fault("toll " + (char) 0 + ";", 5, 1);
        fault("toll 1;toll 1;", 7, 3);
        fault("toll 1;toll", 7, 3);
        fault("toll 1;toll x", 7, 3);
        fault("open 1;toll 1;open 2;", 14, 3);
        fault("days 1 1;days 01 2;", 14, 3);
        fault("days 1 1;days 2 2;days 1", 23, 3);
        fault("warrant 0 1;days 0 1;warrant 0 1;", 29, 3);
        fault("days 1 1;days 1x;", 14, 1);
        fault("days 1 1;days 7 x", 14, 2);
        fault("toll x;toll 1;toll 1;", 5, 1);
    }

    private static String padded(String text, int length, String behind) {
        StringBuilder whole = new StringBuilder(text);
        while (whole.length() < length) {
            whole.append(' ');
        }
        return whole.append(behind).toString();
    }

    private static void longTexts() {
        good(padded("toll 9;", 300, ""), 1, 0, 9);
        good(padded("", 293, "toll 9;"), 1, 0, 9);
        fault(";".repeat(300), 0, 1);
        fault(padded("toll 9;", 301, ""), 300, 1);
        fault(padded("toll 9", 300, ""), 300, 1);
        good(padded("toll 9", 299, ";"), 1, 0, 9);
        fault(padded("toll 9", 300, ";"), 300, 1);
        fault(padded("toll 9;", 300, "toll 9;"), 300, 1);
        fault(padded("toll 9;", 299, "toll 9;"), 299, 3);
        fault(padded("toll 9;", 299, "tollx 9;"), 299, 1);
        fault(padded("toll 9;", 299, "open 9;"), 300, 1);
        fault(padded("toll 9;", 320, ""), 300, 1);
        fault(padded("days", 299, "6 1;"), 299, 2);
        fault(padded("days", 299, "5 1;"), 300, 1);
        fault(padded("days", 299, "05"), 300, 1);
        fault(padded("days", 299, "55"), 299, 2);
        fault(padded("days", 299, "0000"), 299, 1);
        fault(padded("days", 299, "0a"), 299, 1);
        fault(padded("days 1 1;days", 299, "1"), 299, 3);
        fault(padded("days 1 1;days", 299, "11"), 299, 2);
        fault(padded("toll x", 310, ""), 5, 1);
        fault(padded("toll 1;toll 1;", 310, ""), 7, 3);
        fault(padded("toll", 298, "9;x"), 300, 1);
        fault(padded("toll", 298, "9?x"), 299, 1);
    }

    private static void wrongLands() {
        HorseFair x = new HorseFair();
        C.due("a fault", Checks.law(x, 2, "days 9"), -6);
        Checks.lay(x, "toll 3;");
        C.outOfBounds("law(3)", () -> x.law(3));
        C.outOfBounds("law(-1)", () -> x.law(-1));
        C.outOfBounds("law(min)", () -> x.law(Integer.MIN_VALUE));
        C.outOfBounds("rule(3, 0)", () -> x.rule(3, 0));
        C.outOfBounds("rule(-1, 14)", () -> x.rule(-1, 14));
        C.outOfBounds("rule(3, 15)", () -> x.rule(3, 15));
        C.due("the tape stays", x.count(6), 7);
        C.due("wrong stays", x.wrong(), 2);
        C.due("law(2)", x.law(2), 1);
        C.due("toll", x.rule(2, 0), 3);
        C.due("wrong", x.wrong(), 0);
    }
}
