import java.nio.charset.StandardCharsets;

/** Promises 1 to 6, and the terms of a LAW's text: on both sides of each bound that the document names. */
public final class TextEdgesTest {
    private static final Checks C = new Checks("TextEdgesTest");
    private static final int[] FAR = {Integer.MIN_VALUE, Integer.MIN_VALUE + 1, -2, -1};
    private static final int BLANKS = 0x20202020;

    public static void main(String[] args) {
        aNewObjectHasNothing();
        feedUpTo320();
        feedThatIsRefusedBringsNone();
        feedHighestFirst();
        endFrom0ToAll();
        landsFrom0To2();
        lawEmptiesTheTapeUnlessItThrows();
        lawWithAFaultStays();
        textUpTo300Bytes();
        tokensAheadOf300AreReadWhole();
        everySignBetweenTokens();
        everySignInAWord();
        numbersFrom0To999();
        faultsFrom0To5();
        eachRuleOnce();
        theEndIsHowManyBytesThereAre();
        theFirstFaultAndTheLeast();
        wrongIsOfTheLatest();
        rulesFrom0To14();
        C.close();
    }

    private static HorseFair withTape(int length) {
        HorseFair x = new HorseFair();
        for (int n = 0; n < length; n += 20) {
            x.feed(BLANKS, BLANKS, BLANKS, BLANKS, BLANKS);
        }
        x.end(length);
        return x;
    }

    private static String padded(String text, int length) {
        return text + " ".repeat(Math.max(0, length - text.length()));
    }

    /** A text with its rules, on a new object. */
    private static HorseFair good(String text, int rules) {
        HorseFair x = new HorseFair();
        C.due("law of '" + text + "'", Checks.law(x, 0, text), rules);
        C.due("wrong of '" + text + "'", x.wrong(), 0);
        return x;
    }

    private static void fault(String text, int place, int kind) {
        HorseFair x = new HorseFair();
        C.due("law of '" + text + "'", Checks.law(x, 0, text), -1 - place);
        C.due("wrong of '" + text + "'", x.wrong(), kind);
    }

    /** "No PEOPLE, HORSES, SALES, DEBTS, LAWS without RULES, empty CHESTS, DAY 0; an empty tape." */
    private static void aNewObjectHasNothing() {
        HorseFair x = new HorseFair();
        String lawless = " 0".repeat(15);
        C.same("a new object", Picture.of(x), "0 0 0 0 0 0 0 0 wrong 0\nland 0" + lawless + "\nland 1" + lawless + "\nland 2"
                + lawless);
        C.refused(x, "coin(0, 1)", -1, () -> x.coin(0, 1));
        C.refused(x, "horse(0)", -1, () -> x.horse(0));
        C.refused(x, "sell(0, 0, 0, 0, 0)", -2, () -> x.sell(0, 0, 0, 0, 0));
        C.refused(x, "find(0, 0, 0)", 0, () -> x.find(0, 0, 0) ? 1 : 0);
        C.refused(x, "back(0)", -1, () -> x.back(0));
        C.refused(x, "trace(0)", -1, () -> x.trace(0));
        C.refused(x, "steal(0, 0)", 0, () -> x.steal(0, 0) ? 1 : 0);
        C.refused(x, "claim(0)", -1, () -> x.claim(0));
        C.refusedNoSuch(x, "about(0, 0)", () -> x.about(0, 0));
        C.refusedNoSuch(x, "fault(0, 0, 0)", () -> x.fault(0, 0, 0));
        C.refusedNoSuch(x, "sale(0, 0)", () -> x.sale(0, 0));
        C.refusedNoSuch(x, "purse(0, 0)", () -> x.purse(0, 0));
        C.refusedNoSuch(x, "debt(0, 0)", () -> x.debt(0, 0));
        C.refusedNoSuch(x, "hand(0, 0, 0)", () -> x.hand(0, 0, 0));
        C.refused(x, "end(1)", 0, () -> x.end(1) ? 1 : 0);
        C.refused(x, "end(0)", 1, () -> x.end(0) ? 1 : 0);
        C.refused(x, "an empty law", 0, () -> x.law(2));
    }

    /** "how many it has; NONE, and none come, if it would have more than 320." */
    private static void feedUpTo320() {
        for (int length = 0; length <= 320; length++) {
            HorseFair x = withTape(length);
            C.due("bytes", x.count(6), length);
            C.due("feed behind " + length, x.feed(0, 0, 0, 0, 0), length <= 300 ? length + 20 : -1);
            C.due("bytes behind feed", x.count(6), length <= 300 ? length + 20 : length);
        }
    }

    private static void feedThatIsRefusedBringsNone() {
        HorseFair x = new HorseFair();
        Checks.lay(x, padded("toll 7", 299) + "; ");
        C.refused(x, "feed behind 301", -1, () -> x.feed(-1, -1, -1, -1, -1));
        C.due("end", x.end(300), true);
        C.due("the text is as it was", x.law(0), 1);
        C.due("toll", x.rule(0, 0), 7);
    }

    /** "Twenty bytes come behind the tape, of each number the highest first". */
    private static void feedHighestFirst() {
        byte[] text = "toll 123;open 45678;".getBytes(StandardCharsets.ISO_8859_1);
        for (int broken = 0; broken < 20; broken++) {
            HorseFair x = new HorseFair();
            int[] n = new int[5];
            for (int i = 0; i < 20; i++) {
                n[i / 4] |= (i == broken ? 255 : text[i]) << 24 - i % 4 * 8;
            }
            C.due("feed", x.feed(n[0], n[1], n[2], n[3], n[4]), 20);
            // A sign of a word or number that is no such sign ends it: what is ahead of it can come, or not.
            int[] places = {0, 0, 0, 0, 4, 5, 6, 7, 8, 9, 9, 9, 9, 13, 14, 15, 16, 17, 14, 14};
            C.due("byte " + broken + " is 255", x.law(0), -1 - places[broken]);
            C.due("kind", x.wrong(), 1);
        }
    }

    /** "The tape has its first n bytes alone: true; false, if it has not so many, or n is below 0." */
    private static void endFrom0ToAll() {
        for (int length : new int[] {0, 1, 19, 20, 21, 300, 301, 319, 320}) {
            HorseFair x = withTape(length);
            for (int n : FAR) {
                C.refused(x, "end(" + n + ")", 0, () -> x.end(n) ? 1 : 0);
            }
            C.refused(x, "one too many", 0, () -> x.end(length + 1) ? 1 : 0);
            C.refused(x, "end(max)", 0, () -> x.end(Integer.MAX_VALUE) ? 1 : 0);
            C.refused(x, "all of them", 1, () -> x.end(length) ? 1 : 0);
            if (length > 0) {
                C.due("one less", x.end(length - 1), true);
                C.due("bytes", x.count(6), length - 1);
                C.refused(x, "what is cut off is gone", 0, () -> x.end(length) ? 1 : 0);
            }
            C.due("none of them", x.end(0), true);
            C.due("bytes", x.count(6), 0);
        }
        HorseFair y = new HorseFair();
        Checks.lay(y, "toll 123;");
        C.due("end(6)", y.end(6), true);
        C.due("feed", y.feed(0x3B202020, BLANKS, BLANKS, BLANKS, BLANKS), 26);
        C.due("what comes is behind the first n", y.law(0), 1);
        C.due("toll", y.rule(0, 0), 1);
    }

    /** "IndexOutOfBoundsException: l is not 0 to 2 (the tape stays)." */
    private static void landsFrom0To2() {
        HorseFair x = new HorseFair();
        for (int l = 0; l < 3; l++) {
            C.due("law of land " + l, Checks.law(x, l, "toll " + (l + 1) + ";"), 1);
        }
        Checks.lay(x, "toll 9;");
        for (int l : new int[] {Integer.MIN_VALUE, -1, 3, 4, Integer.MAX_VALUE}) {
            C.refusedOutOfBounds(x, "law(" + l + ")", () -> x.law(l));
            for (int what : new int[] {Integer.MIN_VALUE, -1, 0, 13, 14, 15, Integer.MAX_VALUE}) {
                C.refusedOutOfBounds(x, "rule(" + l + ", " + what + ")", () -> x.rule(l, what));
            }
        }
        C.due("the tape stays", x.count(6), 7);
        C.due("its bytes stay", x.law(1), 1);
        for (int l = 0; l < 3; l++) {
            C.due("toll of land " + l, x.rule(l, 0), l == 1 ? 9 : l + 1);
        }
    }

    /** "The tape (empty then) is the LAW of LAND l now". */
    private static void lawEmptiesTheTapeUnlessItThrows() {
        HorseFair x = new HorseFair();
        Checks.lay(x, "toll 5;");
        C.due("a good law", x.law(0), 1);
        C.due("empty", x.count(6), 0);
        C.refused(x, "nothing is left of it", 0, () -> x.end(1) ? 1 : 0);
        Checks.lay(x, "toll 5");
        C.due("a law with a fault", x.law(0), -7);
        C.due("empty", x.count(6), 0);
        Checks.lay(x, " ".repeat(320));
        C.due("a full tape", x.law(0), -301);
        C.due("empty", x.count(6), 0);
        C.due("an empty tape is a law without rules", x.law(0), 0);
        C.due("toll", x.rule(0, 0), 0);
    }

    /** "-1 less the place of its FAULT: it stays." */
    private static void lawWithAFaultStays() {
        HorseFair x = new HorseFair();
        Checks.law(x, 0, "toll 1;open 2;days 0 3;warrant 5 4;");
        Checks.law(x, 1, "toll 9;");
        for (String text : new String[] {"toll 7;open", "days 6", "toll 7;open 8;days 0 9;warrant 5 9;toll 1;", "?"}) {
            C.due("a fault", Checks.law(x, 0, text) < 0, true);
            C.dueAll("it stays", w -> x.rule(0, w), 1, 2, 3, 0, 0, 0, 0, 0, 0, 0, 0, 0, 0, 4, 0);
        }
        C.due("another land", x.rule(1, 0), 9);
        C.due("a law that comes is the whole law", Checks.law(x, 0, "days 1 8;"), 1);
        C.dueAll("0 without a RULE", w -> x.rule(0, w), 0, 0, 0, 8, 0, 0, 0, 0, 0, 0, 0, 0, 0, 0, 0);
        C.due("another land", x.rule(1, 0), 9);
    }

    /** "a text of at most 300 bytes"; "300, if there are more and no such one is ahead". */
    private static void textUpTo300Bytes() {
        for (int length = 295; length <= 320; length++) {
            if (length <= 300) {
                good(padded("toll 9;", length), 1);
                good(padded("", length - 7) + "toll 9;", 1);
                good(padded("", length), 0);
            } else {
                fault(padded("toll 9;", length), 300, 1);
                fault(padded("", length), 300, 1);
                fault(padded("toll 9", length), 300, 1);
            }
            fault(padded("toll x", length), 5, 1);
            fault(padded("days 6", length), 5, 2);
            fault(padded("toll 1;toll 1;", length), 7, 3);
        }
        fault(padded("toll 9;", 299) + "?", 299, 1);
        fault(padded("toll 9;", 300) + "?", 300, 1);
    }

    /** "TOKENS that begin ahead of it are read whole". */
    private static void tokensAheadOf300AreReadWhole() {
        fault(padded("days", 299) + "6", 299, 2);
        fault(padded("days", 300) + "6", 300, 1);
        fault(padded("days", 299) + "56", 299, 2);
        fault(padded("days", 299) + "5 6;", 300, 1);
        fault(padded("days", 298) + "005", 300, 1);
        fault(padded("days", 298) + "006", 298, 2);
        fault(padded("days", 297) + "0005", 297, 1);
        fault(padded("days", 299) + "5x", 299, 1);
        fault(padded("toll 1;", 299) + "toll", 299, 3);
        fault(padded("toll 1;", 296) + "toll", 296, 3);
        fault(padded("toll 1;", 300) + "toll", 300, 1);
        fault(padded("toll 1;", 299) + "open 5;", 300, 1);
        fault(padded("toll 1;", 299) + "opens", 299, 1);
        fault(padded("toll 1;", 299) + "warrant 0 5;", 300, 1);
        fault(padded("days 1 1;days", 299) + "1", 299, 3);
        fault(padded("days 1 1;days", 299) + "001", 299, 3);
        fault(padded("days 1 1;days", 300) + "1", 300, 1);
        fault(padded("toll 1;", 299) + "z".repeat(21), 299, 1);
        fault(padded("toll", 299) + "1".repeat(21), 299, 1);
        fault("z".repeat(320), 0, 1);
        fault("1".repeat(320), 0, 1);
    }

    private static boolean isBlank(int sign) {
        return sign == 32 || sign == 10;
    }

    private static boolean goesOn(int sign) {
        return sign >= 97 && sign <= 122 || sign >= 48 && sign <= 57;
    }

    /** "TOKENS, with blanks (32, 10) between them or not". */
    private static void everySignBetweenTokens() {
        for (int sign = 0; sign < 256; sign++) {
            char c = (char) sign;
            if (isBlank(sign)) {
                good(c + "toll" + c + "5" + c + ";" + c, 1);
                good("toll" + c + c + "5;" + c + c + "open 1;", 2);
                continue;
            }
            fault(c + "toll 5;", 0, 1);
            fault("toll 5;" + c, 7, 1);
            fault("toll" + c + "5;", goesOn(sign) ? 0 : 4, 1);
            fault(" " + c + " toll 5;", 1, 1);
            if (sign < 48 || sign > 57) {
                fault("toll 5" + c + ";", goesOn(sign) ? 5 : sign == 59 ? 7 : 6, 1);
                fault("days 5" + c + "5;", goesOn(sign) ? 5 : 6, 1);
            }
        }
        good("toll 5;open 6;days 1 7;", 3);
        good("toll\n \n5 \n;", 1);
    }

    /** "WORDS: small letters"; "A WORD, NUMBER goes on as long as small letters and digits do". */
    private static void everySignInAWord() {
        String[] rules = {"toll 5;", "open 5;", "days 5 5;", "warrant 5 5;"};
        for (String rule : rules) {
            int length = rule.indexOf(' ');
            for (int i = 0; i < length; i++) {
                for (int sign = 33; sign < 256; sign++) {
                    char c = (char) sign;
                    String other = rule.substring(0, i) + c + rule.substring(i + 1);
                    if (c == rule.charAt(i)) {
                        good(other, 1);
                    } else {
                        fault(other, 0, 1);
                    }
                }
            }
            fault(rule.substring(1), 0, 1);
            fault(rule.substring(0, length - 1) + rule.substring(length), 0, 1);
            fault(rule.substring(0, length) + "s" + rule.substring(length), 0, 1);
        }
    }

    /** "NUMBERS: 1 to 3 digits"; "the other NUMBERS 0 to 999". */
    private static void numbersFrom0To999() {
        HorseFair x = new HorseFair();
        for (int n = 0; n <= 999; n++) {
            C.due("law", Checks.law(x, 0, "toll " + n + ";"), 1);
            C.due("toll", x.rule(0, 0), n);
        }
        String[] rules = {"toll ", "open ", "days 0 ", "days 5 ", "warrant 0 ", "warrant 5 "};
        int[] whats = {0, 1, 2, 7, 8, 13};
        for (int i = 0; i < rules.length; i++) {
            C.due("0", good(rules[i] + "0;", 1).rule(0, whats[i]), 0);
            C.due("000", good(rules[i] + "000;", 1).rule(0, whats[i]), 0);
            C.due("009", good(rules[i] + "009;", 1).rule(0, whats[i]), 9);
            C.due("999", good(rules[i] + "999;", 1).rule(0, whats[i]), 999);
            fault(rules[i] + "1000;", rules[i].length(), 1);
            fault(rules[i] + "0000;", rules[i].length(), 1);
            fault(rules[i] + "0999;", rules[i].length(), 1);
            fault(rules[i] + "4294967296;", rules[i].length(), 1);
            fault(rules[i] + ";", rules[i].length(), 1);
            fault(rules[i] + "-1;", rules[i].length(), 1);
        }
    }

    /** "FAULT: a NUMBER 0 to 5"; "2 a NUMBER that is no FAULT (at it)". */
    private static void faultsFrom0To5() {
        for (int f = 0; f <= 999; f++) {
            if (f <= 5) {
                C.due("days", good("days " + f + " 7;", 1).rule(0, 2 + f), 7);
                C.due("warrant", good("warrant 00" + f + " 7;", 1).rule(0, 8 + f), 7);
            } else {
                fault("days " + f + " 7;", 5, 2);
                fault("warrant " + f, 8, 2);
            }
        }
        fault("days 006 7;", 5, 2);
        fault("days 0005 7;", 5, 1);
        fault("days 1000 7;", 5, 1);
        fault("days", 4, 1);
        fault("days;", 4, 1);
        fault("warrant x 7;", 8, 1);
    }

    /** "each of these once at most"; "days, warrant once for each FAULT"; "3 a RULE told twice". */
    private static void eachRuleOnce() {
        String[] rules = new String[14];
        rules[0] = "toll 9;";
        rules[1] = "open 9;";
        for (int f = 0; f < 6; f++) {
            rules[2 + f] = "days " + f + " 9;";
            rules[8 + f] = "warrant " + f + " 9;";
        }
        String all = String.join("", rules);
        HorseFair x = good(all, 14);
        C.dueAll("rule", w -> x.rule(0, w), 9, 9, 9, 9, 9, 9, 9, 9, 9, 9, 9, 9, 9, 9, 0);
        for (int i = 0; i < 14; i++) {
            int atFault = i < 2 ? 0 : rules[i].indexOf(' ') + 1;
            fault(all + rules[i], all.length() + atFault, 3);
            fault(rules[i] + rules[i], rules[i].length() + atFault, 3);
            for (int j = 0; j < 14; j++) {
                if (j != i) {
                    good(rules[i] + rules[j], 2);
                    fault(rules[i] + rules[j] + rules[i], rules[i].length() + rules[j].length() + atFault, 3);
                }
            }
        }
        fault("toll 0;toll 0;", 7, 3);
        fault("days 5 0;days 005 0;", 14, 3);
    }

    /** "the end: how many bytes there are". */
    private static void theEndIsHowManyBytesThereAre() {
        String text = "open 12;days 3 4;";
        int[] answers = {0, -1, -1, -1, -5, -6, -7, -8, 1, -9, -9, -9, -13, -14, -15, -16, -17, 2};
        for (int n = 0; n <= text.length(); n++) {
            HorseFair x = new HorseFair();
            C.due("law of " + n + " bytes", Checks.law(x, 0, text.substring(0, n)), answers[n]);
            C.due("wrong of " + n + " bytes", x.wrong(), answers[n] < 0 ? 1 : 0);
        }
        fault("open \n ", 7, 1);
        fault("open 1\n\n", 8, 1);
        fault(padded("open 1", 299), 299, 1);
        fault(padded("open 1", 300), 300, 1);
    }

    /** "the first along it, of one TOKEN the least". */
    private static void theFirstFaultAndTheLeast() {
        fault("days 6 ?", 5, 2);
        fault("? days 6", 0, 1);
        fault("toll 1;toll 1;days 6", 7, 3);
        fault("toll 1;days 6 1;toll 1;", 12, 2);
        fault("toll 1;days toll 1;", 12, 1);
        fault("toll 1;open toll 1;", 12, 1);
        fault("toll 1;open 1 toll 1;", 14, 1);
        fault("days 1 1;days 1001 1;", 14, 1);
        fault("days 1 1;days 1? 1;", 14, 3);
    }

    /** "The kind of the FAULT of the latest law() that did not throw; 0 without one and ahead of any." */
    private static void wrongIsOfTheLatest() {
        HorseFair x = new HorseFair();
        C.due("ahead of any", x.wrong(), 0);
        String[] texts = {"?", "days 6", "toll 1;toll 1;", "toll 1;"};
        int[] kinds = {1, 2, 3, 0};
        for (int first = 0; first < 4; first++) {
            for (int then = 0; then < 4; then++) {
                Checks.law(x, 0, texts[first]);
                Checks.law(x, 2, texts[then]);
                C.due("wrong", x.wrong(), kinds[then]);
                Checks.lay(x, texts[first]);
                C.refusedOutOfBounds(x, "law(3)", () -> x.law(3));
                C.due("wrong behind one that throws", x.wrong(), kinds[then]);
                x.end(0);
            }
        }
    }

    /** "NONE for another what." */
    private static void rulesFrom0To14() {
        HorseFair x = new HorseFair();
        x.person(1000);
        x.person(1000);
        x.horse(0);
        for (int l = 0; l < 3; l++) {
            int land = l;
            Checks.law(x, l, "toll 500;open 2;days 0 3;days 5 4;warrant 0 5;warrant 5 6;");
            x.sell(0, 1 - x.about(0, 0), 20 + l * 2, 0, l);
            C.dueAll("rule", w -> x.rule(land, w), 500, 2, 3, 0, 0, 0, 0, 4, 5, 0, 0, 0, 0, 6, 10 + l);
            for (int what : new int[] {Integer.MIN_VALUE, -15, -2, -1, 15, 16, Integer.MAX_VALUE}) {
                C.refused(x, "rule(" + l + ", " + what + ")", -1, () -> x.rule(land, what));
            }
        }
    }
}
