/** The text and its fault: "The text", and promises 2 to 4. */
final class TextSentences {
    private static final int BAD = TimeFlood.BAD, FULL = TimeFlood.FULL, NONE = TimeFlood.NONE;
    private static final String HEAD = "F0810";
    private static final String FIVE = HEAD + "n000n000n000n000n000";

    private TextSentences() {
    }

    private static void faultIs(String text, int want) {
        Due.due("fault() of \"" + text + "\"", Given.typed(text).fault(), want);
    }

    /** Of all letters behind this text, just these are no fault of their own. */
    private static void goesOnWith(String text, String letters) {
        for (int letter = 0; letter <= 255; letter++) {
            TimeFlood x = Given.typed(text);
            x.write(letter);
            boolean faulty = x.fault() == text.length();
            Due.due("\"" + text + "\" then " + letter + ": faulty there",
                    faulty ? 1 : 0, letters.indexOf(letter) < 0 ? 1 : 0);
        }
    }

    // ---- The text

    @Says(in = "The text", value = "The text has at most 60 characters.")
    static void theSixtyFirstCharacterIsRefused() {
        TimeFlood x = new TimeFlood();
        for (int i = 1; i <= 59; i++) {
            x.write('F');
        }
        Due.due("length", x.about(13), 59);
        Due.due("the 60th", x.write('F'), 60);
        Due.due("the 61st", x.write('F'), FULL);
        Due.due("length", x.about(13), 60);
    }

    @Says(in = "The text", value = "A network is a text without blanks")
    static void aBlankIsAFaultAnywhere() {
        String text = HEAD + "n400n410k01";
        for (int at = 0; at <= text.length(); at++) {
            faultIs(text.substring(0, at) + " " + text.substring(at), at);
        }
    }

    @Says(in = "The text", value = "\"F\", two digits for L (08 to 32)")
    static void unitsFrom08To32() {
        for (int unit = 0; unit <= 99; unit++) {
            int fault = unit > 39 ? 1 : unit < 8 || unit > 32 ? 2 : NONE;
            faultIs("F" + unit / 10 + unit % 10 + "10", fault);
        }
    }

    @Says(in = "The text", value = "a digit for the patience (1 to 9)")
    static void patiencesFrom1To9() {
        goesOnWith("F08", "123456789");
    }

    @Says(in = "The text", value = "a digit for the shyness (0 to 9)")
    static void shynessesFrom0To9() {
        goesOnWith("F081", "0123456789");
    }

    @Says(in = "The text", value = "and any number of items")
    static void fromNoItemsToTwelve() {
        faultIs(HEAD, NONE);
        faultIs(HEAD + "n000", NONE);
        faultIs(FIVE + "k01k02k03k04k12k13k14", NONE);
    }

    @Says(in = "The text", value = "a node, with its drift + 4 (0 to 9), and its start (00 to 63)")
    static void nodesFrom000To963() {
        for (int start = 0; start <= 99; start++) {
            int fault = start > 69 ? 7 : start > 63 ? 8 : NONE;
            faultIs(HEAD + "n0" + start / 10 + start % 10, fault);
            faultIs(HEAD + "n9" + start / 10 + start % 10, fault);
        }
        goesOnWith(HEAD + "n", "0123456789");
        goesOnWith(HEAD + "n0", "0123456");
        goesOnWith(HEAD + "n05", "0123456789");
        goesOnWith(HEAD + "n06", "0123");
    }

    @Says(in = "The text", value = "two nodes (digits) whose items come before")
    static void linksOfNodesThatComeBefore() {
        String three = HEAD + "n000n000n000";
        goesOnWith(three + "k", "012");
        goesOnWith(three + "k0", "12");
        goesOnWith(three + "k2", "01");
        // A node that comes only behind the link does not help.
        faultIs(HEAD + "n000n000k02n000", 15);
        faultIs(HEAD + "n000n000k20n000", 14);
        faultIs(HEAD + "n000n000k01n000k02", NONE);
    }

    @Says(in = "The text", value = "and which have no link yet")
    static void aSecondLinkOfTheSameTwo() {
        String linked = HEAD + "n000n000n000k01";
        faultIs(linked + "k01", 22);
        faultIs(linked + "k10", 22);
        faultIs(linked + "k02", NONE);
        goesOnWith(linked + "k1", "2");
        goesOnWith(linked + "k2", "01");
    }

    @Says(in = "The text", value = "There are at most 5 nodes and 7 links.")
    static void fiveNodesAndSevenLinksAreANetwork() {
        faultIs(FIVE, NONE);
        faultIs(FIVE + "n000", 25);
        faultIs(FIVE + "k01k02k03k04k12k13k14", NONE);
        faultIs(FIVE + "k01k02k03k04k12k13k14k23", 46);
    }

    @Says(in = "The text", value = "The fault of the text is the position, from 0, of the first character with which "
            + "the text so far is no beginning of any network")
    static void theFirstOfTwoFaultsCounts() {
        goesOnWith("", "F");
        goesOnWith("F", "0123");
        goesOnWith("F0", "89");
        goesOnWith("F1", "0123456789");
        goesOnWith("F2", "0123456789");
        goesOnWith("F3", "012");
        goesOnWith(HEAD, "n");
        goesOnWith(HEAD + "n000", "n");
        goesOnWith(HEAD + "n000n000", "nk");
        faultIs("x0710", 0);
        faultIs("F0700", 2);
        faultIs("F08x0n999", 3);
        faultIs(HEAD + "n999n999", 6 + 1);
    }

    @Says(in = "The text", value = "whatever its length")
    static void aFullTextHasItsFaultWhereTheNetworkEnds() {
        StringBuilder s = new StringBuilder(FIVE + "k01k02k03k04k12k13k14");
        while (s.length() < 60) {
            s.append("n000");
            s.setLength(Math.min(s.length(), 60));
        }
        faultIs(s.toString(), 46);
    }

    @Says(in = "The text", value = "so a sixth n")
    static void aSixthN() {
        goesOnWith(HEAD + "n000n000n000n000", "nk");
        goesOnWith(FIVE, "k");
        faultIs(FIVE + "k01n", 28);
    }

    @Says(in = "The text", value = "an eighth k")
    static void anEighthK() {
        goesOnWith(FIVE + "k01k02k03k04k12k13", "k");
        goesOnWith(FIVE + "k01k02k03k04k12k13k14", "");
        // With four nodes a node may still follow, but no link.
        String six = HEAD + "n000n000n000n000k01k02k03k12k13k23";
        faultIs(six + "n000k04", NONE);
        faultIs(six + "n000k04k", 46);
    }

    @Says(in = "The text", value = "a k if there are no two nodes without a link")
    static void aKWithoutTwoNodesToLink() {
        faultIs(HEAD + "k", 5);
        faultIs(HEAD + "n000k", 9);
        faultIs(HEAD + "n000n000k", 14);
        goesOnWith(HEAD + "n000n000k01", "n");
        goesOnWith(HEAD + "n000n000n000k01k02", "nk");
        goesOnWith(HEAD + "n000n000n000k01k02k12", "n");
        goesOnWith(HEAD + "n000n000n000n000k01k02k03k12k13", "nk");
        goesOnWith(HEAD + "n000n000n000n000k01k02k03k12k13k23", "n");
        goesOnWith(HEAD + "n000n000k01n000", "nk");
    }

    @Says(in = "The text", value = "the digit of a node that has links to all others")
    static void aNodeThatHasAllItsLinks() {
        goesOnWith(HEAD + "n000n000n000k01k02k", "12");
        goesOnWith(FIVE + "k01k02k03k04k", "1234");
        goesOnWith(FIVE + "k40k30k20k10k12k13k", "1234");
        goesOnWith(FIVE + "k01k02k03k12k13k23k", "01234");
        goesOnWith(FIVE + "k01k02k03k12k13k23k0", "4");
        // Only the first node is left for both others, or only the last one.
        goesOnWith(HEAD + "n000n000n000k12k", "012");
        goesOnWith(HEAD + "n000n000n000k12k2", "0");
        goesOnWith(HEAD + "n000n000n000k01k", "012");
        goesOnWith(HEAD + "n000n000n000k01k0", "2");
    }

    @Says(in = "The text", value = "a second digit if both nodes are the same or have a link")
    static void aSecondDigitThatDoesNotFit() {
        for (int node = 0; node <= 4; node++) {
            goesOnWith(FIVE + "k" + node, "01234".replace("" + node, ""));
        }
        goesOnWith(FIVE + "k01k31k1", "24");
        goesOnWith(FIVE + "k01k31k3", "024");
    }

    @Says(in = "The text", value = "or the length of the text if it ends too early")
    static void everyUnfinishedBeginning() {
        String text = HEAD + "n400n410k01n963";
        for (int length = 0; length <= text.length(); length++) {
            boolean whole = length == 5 || length == 9 || length == 13 || length == 16 || length == 20;
            faultIs(text.substring(0, length), whole ? NONE : length);
        }
    }

    @Says(in = "The text", value = "there is none if it is a network")
    static void aNetworkHasNoFault() {
        faultIs("F0810", NONE);
        faultIs("F3299", NONE);
        faultIs(Given.FULL_NET, NONE);
    }

    // ---- Promise 2: write

    @Says(in = "Promise 2", value = "its code, 0 to 255")
    static void lettersFrom0To255() {
        TimeFlood x = new TimeFlood();
        Due.due("write(0)", x.write(0), 1);
        Due.due("write(255)", x.write(255), 2);
        // A letter is kept whole: 70 + 128 and 70 + 256 are no F.
        TimeFlood y = new TimeFlood();
        y.write(70 + 128);
        Due.due("fault", y.fault(), 0);
    }

    @Says(in = "Promise 2", value = "Returns the new length of the text")
    static void lengthsFrom1To60() {
        TimeFlood x = new TimeFlood();
        for (int i = 1; i <= 60; i++) {
            Due.due("write, " + i, x.write(i), i);
        }
    }

    @Says(in = "Promise 2", value = "BAD if letter is out of range")
    static void lettersBeyond0And255() {
        for (int letter : new int[] {-1, 256, -256, 70 + 256, Integer.MIN_VALUE, Integer.MAX_VALUE}) {
            TimeFlood x = Given.typed("F");
            Due.due("write(" + letter + ")", x.write(letter), BAD);
            Due.due("length", x.about(13), 1);
        }
    }

    @Says(in = "Promise 2", value = "FULL if the text has 60 characters")
    static void fullAt60AndNoLongerAfterWipe() {
        TimeFlood x = new TimeFlood();
        for (int i = 1; i <= 60; i++) {
            x.write('F');
        }
        Due.due("write to 60", x.write('F'), FULL);
        x.wipe();
        Due.due("write after wipe", x.write('F'), 1);
    }

    // ---- Promise 3: wipe

    @Says(in = "Promise 3", value = "Empties the text.")
    static void afterWipeTheTextBeginsAnew() {
        TimeFlood x = Given.typed(Given.PAIR + "n");
        x.wipe();
        Due.due("length", x.about(13), 0);
        Due.due("fault", x.fault(), 0);
        Given.type(x, "F0810");
        Due.due("fault of the new text", x.fault(), NONE);
        Due.due("nodes of the new text", x.net(), 0);
    }

    @Says(in = "Promise 3", value = "Returns the length that it had.")
    static void wipeOfEmptyAndOfFullText() {
        TimeFlood x = new TimeFlood();
        Due.due("empty", x.wipe(), 0);
        x.write(0);
        Due.due("one", x.wipe(), 1);
        for (int i = 1; i <= 61; i++) {
            x.write(0);
        }
        Due.due("full", x.wipe(), 60);
        Due.due("empty again", x.wipe(), 0);
    }

    // ---- Promise 4: fault

    @Says(in = "Promise 4", value = "Returns the fault; NONE if there is none.")
    static void faultOfEmptyFaultyAndWholeText() {
        TimeFlood x = new TimeFlood();
        Due.due("empty", x.fault(), 0);
        Given.type(x, "F0810");
        Due.due("whole", x.fault(), NONE);
        Due.due("asked again", x.fault(), NONE);
        x.write('n');
        Due.due("unfinished", x.fault(), 6);
        x.write('x');
        Due.due("faulty", x.fault(), 6);
    }
}
