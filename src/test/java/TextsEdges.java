/** Texts, and promises 17 to 20. */
final class TextsEdges extends Edges {
    private static final String TEXT = "text = order { \";\" order }";
    private static final String ORDER =
        "order = \"+\" number [ \"=\" number ] | \"-\" number | \"!\" number";
    private static final String NUMBER = "A number is 0 to 999, without leading zeros.";
    private static final String FAULT = "The fault is the index of the first character that cannot stand at its place"
        + " when the text is read from left to right";
    private static final String ABOVE = "(also of a digit by which a number would be above 999)";
    private static final String TOO_EARLY = "if there is none and the text ends too early";
    private static final String GAP = "8 bits that are 0 mean that there are no more characters, and everything above"
        + " them has to be 0, too.";
    private static final String PUT_ERRORS = "BAD_VALUE if there is no character, a code is not 33 to 126, or a bit"
        + " above 8 bits that are 0 is not 0; TOO_MANY if the pad would be longer than 80.";
    private static final String CARRY_OUT = "Carries the orders of the pad out, one after the other, up to the first"
        + " one that returns an error, and empties the pad.";
    private static final String ONE_CHANGE =
        "This is a change (one, with all of them; also if none is carried out).";

    private static LeaningTrees calmWith(String text, int... keys) {
        LeaningTrees tree = calm(keys);
        write(tree, text);
        return tree;
    }

    // ---- Texts

    @Says("The pad is a text of at most 80 characters, a row of orders")
    void aTextOf80Characters() {
        LeaningTrees tree = padOf(FULL_PAD);
        due("count(13)", tree.count(13), 80);
        due("fault()", tree.fault(), NONE);
        due("put(;)", tree.put(';'), TOO_MANY);
        due("count(13)", tree.count(13), 80);
        due("carryOut()", tree.carryOut(), 27);
        due("count(1)", tree.count(1), 9);
    }

    @Says(TEXT)
    void ordersWithSignsBetween() {
        faultOf("+1", NONE);
        faultOf("+1;-2", NONE);
        faultOf("+1;-2;!3;+4=5;+6", NONE);
        faultOf(";", 0);
        faultOf(";+1", 0);
        faultOf("+1;;+2", 3);
        faultOf("+1;", 3);
        faultOf("+1+2", 2);
        faultOf("-1-2", 2);
        faultOf("!1!2", 2);
        faultOf("+1=2+3", 4);
    }

    @Says(ORDER)
    void anEqualsSignOnceAndAfterPlusAlone() {
        faultOf("+5=6", NONE);
        faultOf("-5=6", 2);
        faultOf("!5=6", 2);
        faultOf("+5=6=7", 4);
        faultOf("+=6", 1);
        faultOf("+5=+6", 3);
        faultOf("+5=;+6", 3);
        faultOf("+5=6;-7=8", 7);
        faultOf("-5;+6=7", NONE);
    }

    @Says(ORDER)
    void aNumberBehindEachSign() {
        for (String sign : new String[] {"+", "-", "!"}) {
            faultOf(sign + "7", NONE);
            faultOf(sign, 1);
            faultOf(sign + ";", 1);
            faultOf(sign + sign + "7", 1);
        }
        faultOf("7", 0);
        faultOf("=7", 0);
    }

    /** Only these of all characters can stand behind a text. */
    private void canGoOn(String text, String characters) {
        for (char next = 33; next <= 126; next++) {
            LeaningTrees tree = padOf(text);
            tree.put(next);
            boolean can = tree.fault() != text.length();
            due(next + " can stand behind " + text, can ? 1 : 0, characters.indexOf(next) >= 0 ? 1 : 0);
        }
    }

    @Says(FAULT)
    void whichOfAllCharactersCanStand() {
        canGoOn("+1;", "+-!");
        canGoOn("+", "0123456789");
        canGoOn("-", "0123456789");
        canGoOn("!", "0123456789");
        canGoOn("+5=", "0123456789");
    }

    @Says(FAULT)
    void whichOfAllCharactersCanStandBehindANumber() {
        LeaningTrees tree = new LeaningTrees();
        for (char first = 33; first <= 126; first++) {
            tree.wipe();
            tree.put(first);
            due("fault() of " + first, tree.fault(), "+-!".indexOf(first) >= 0 ? 1 : 0);
        }
        behindNumber("+5", "0123456789=;");
        behindNumber("+0", "=;");
        behindNumber("+99", "0123456789=;");
        behindNumber("+100", "=;");
        behindNumber("-5", "0123456789;");
        behindNumber("!0", ";");
        behindNumber("+5=6", "0123456789;");
        behindNumber("+5=0", ";");
        behindNumber("+5=999", ";");
    }

    private void behindNumber(String text, String characters) {
        for (char next = 33; next <= 126; next++) {
            LeaningTrees tree = padOf(text + next);
            int want = text.length() + (next == ';' || next == '=' ? 1 : 0);
            boolean can = characters.indexOf(next) >= 0;
            boolean isDigit = next >= '0' && next <= '9';
            due("fault() of " + text + next, tree.fault(), can ? isDigit ? NONE : want : text.length());
        }
    }

    @Says("(that of the key itself, if it is left out)")
    void aValueThatIsLeftOut() {
        LeaningTrees tree = calmWith("+0;+999;+5=7;+6;+8=0");
        due("carryOut()", tree.carryOut(), 5);
        due("value(0)", tree.value(0), 0);
        due("value(999)", tree.value(999), 999);
        due("value(5)", tree.value(5), 7);
        due("value(6): not the one before", tree.value(6), 6);
        due("value(8): 0 is not left out", tree.value(8), 0);
        write(tree, "+5");
        due("carryOut()", tree.carryOut(), 1);
        due("value(5)", tree.value(5), 5);
    }

    @Says(NUMBER)
    void theNumbersAtTheEnds() {
        String[] orders = {"+0", "-0", "!0", "+999", "-999", "!999", "+0=0", "+999=999", "+10", "+100"};
        for (String order : orders) {
            faultOf(order, NONE);
        }
    }

    @Says(NUMBER)
    void leadingZeros() {
        faultOf("+00", 2);
        faultOf("+01", 2);
        faultOf("-00", 2);
        faultOf("-09", 2);
        faultOf("!00", 2);
        faultOf("!010", 2);
        faultOf("+5=00", 4);
        faultOf("+5=05", 4);
        faultOf("+5;+06", 5);
        faultOf("+00=1", 2);
    }

    @Says(ABOVE)
    void theFourthDigit() {
        faultOf("+1000", 4);
        faultOf("+9990", 4);
        faultOf("+9999", 4);
        faultOf("-1000", 4);
        faultOf("!1000", 4);
        faultOf("+5=1000", 6);
        faultOf("+1000=5", 4);
        faultOf("+999=9999", 8);
        faultOf("+12345678", 4);
        faultOf("-1;-10000", 7);
    }

    @Says(FAULT)
    void theFirstOfSeveral() {
        faultOf("x", 0);
        faultOf("xx", 0);
        faultOf("+x+x", 1);
        faultOf("+5x;;", 2);
        faultOf("+5=x=", 3);
        faultOf("+5;x;", 3);
        faultOf("+5;-6;!7;~", 9);
    }

    @Says(FAULT)
    void atTheLastOf80() {
        faultOf(FULL_PAD.substring(0, 79) + "x", 79);
        faultOf(FULL_PAD.substring(0, 77) + "+50", 77);
        faultOf(FULL_PAD.substring(0, 78) + "50", 78);
        faultOf(FULL_PAD.substring(0, 75) + "+1000", 79);
        faultOf(FULL_PAD.substring(0, 75) + "+5=05", 79);
        faultOf(FULL_PAD.substring(0, 75) + "+5=55", NONE);
    }

    @Says(TOO_EARLY)
    void itEndsTooEarly() {
        faultOf("+", 1);
        faultOf("-", 1);
        faultOf("!", 1);
        faultOf("+5=", 3);
        faultOf("+5;", 3);
        faultOf("+5=6;", 5);
        faultOf("+999=999;!", 10);
        faultOf(FULL_PAD.substring(0, 79), 79);
        faultOf(FULL_PAD.substring(0, 75) + "+123;", 80);
        faultOf(FULL_PAD.substring(0, 75) + "+123=", 80);
    }

    @Says("(also if it is empty), it is the length of the text.")
    void itIsEmpty() {
        LeaningTrees tree = new LeaningTrees();
        due("fault()", tree.fault(), 0);
        due("carryOut()", tree.carryOut(), BAD_TEXT);
        write(tree, "+1");
        tree.wipe();
        due("fault() after wipe()", tree.fault(), 0);
        write(tree, "+1");
        tree.carryOut();
        due("fault() after carryOut()", tree.fault(), 0);
    }

    // ---- Promise 17: put

    @Says("its lowest 8 bits are the last character, the next 8 bits the one before, and so on")
    void theLowestBitsAreTheLastCharacter() {
        LeaningTrees tree = calm();
        due("put(+12=)", tree.put(0x2b31323dL), 4);
        due("put(34;+5=67)", tree.put(0x33343b2b353d3637L), 12);
        due("fault()", tree.fault(), NONE);
        due("carryOut()", tree.carryOut(), 2);
        due("value(12)", tree.value(12), 34);
        due("value(5)", tree.value(5), 67);
    }

    @Says("`characters`: 1 to 8 characters")
    void oneToEightCharacters() {
        String characters = "12345678";
        for (int number = 1; number <= 8; number++) {
            LeaningTrees tree = padOf("+");
            due("put() of " + number, tree.put(number(characters.substring(0, number))), 1 + number);
            due("count(13)", tree.count(13), 1 + number);
        }
    }

    @Says(GAP)
    void anyBitAboveAGap() {
        for (int number = 0; number <= 6; number++) {
            long characters = number("++++++".substring(0, number));
            LeaningTrees tree = new LeaningTrees();
            for (int bit = 8 * number + 8; bit < 64; bit++) {
                due("put() of " + number + " and bit " + bit, tree.put(characters | 1L << bit), BAD_VALUE);
            }
            due("count(13)", tree.count(13), 0);
        }
    }

    @Says(GAP)
    void wholeCharactersAboveAGap() {
        LeaningTrees tree = new LeaningTrees();
        due("put(+, a gap)", tree.put(0x2b00L), BAD_VALUE);
        due("put(+, a gap, 1)", tree.put(0x2b0031L), BAD_VALUE);
        due("put(+, a gap at the seventh)", tree.put(0x2b00313131313131L), BAD_VALUE);
        due("put(six gaps below the first)", tree.put(0x2b00000000000000L), BAD_VALUE);
        due("put() of seven", tree.put(0x002b313233343536L), 7);
    }

    @Says(PUT_ERRORS)
    void noCharacterAtAll() {
        due("put(0)", new LeaningTrees().put(0), BAD_VALUE);
    }

    @Says(PUT_ERRORS)
    void theCodesAtTheEnds() {
        LeaningTrees tree = new LeaningTrees();
        due("put(32)", tree.put(32), BAD_VALUE);
        due("put(33)", tree.put(33), 1);
        due("put(126)", tree.put(126), 2);
        due("put(127)", tree.put(127), BAD_VALUE);
        due("put(1)", tree.put(1), BAD_VALUE);
        due("put(128)", tree.put(128), BAD_VALUE);
        due("put(255)", tree.put(255), BAD_VALUE);
        due("count(13)", tree.count(13), 2);
    }

    @Says(PUT_ERRORS)
    void eachOfEightCodesIsLookedAt() {
        long right = number("12345678");
        LeaningTrees tree = new LeaningTrees();
        for (int place = 0; place < 8; place++) {
            long without = right & ~(255L << 8 * place);
            for (long code : new long[] {1, 32, 127, 128, 255}) {
                due("put() with " + code + " at " + place, tree.put(without | code << 8 * place), BAD_VALUE);
            }
            due("put() with 0 at " + place, tree.put(without), place == 7 ? 7 : BAD_VALUE);
        }
        due("count(13)", tree.count(13), 7);
        due("put() with 33 and 126", tree.put(right & ~0xff000000000000ffL | 33L << 56 | 126), 15);
        due("put() with 126 and 33", tree.put(right & ~0xff000000000000ffL | 126L << 56 | 33), 23);
    }

    @Says(PUT_ERRORS)
    void numbersBelowZero() {
        LeaningTrees tree = new LeaningTrees();
        due("put(-1)", tree.put(-1), BAD_VALUE);
        due("put(MIN)", tree.put(Long.MIN_VALUE), BAD_VALUE);
        due("put(MAX)", tree.put(Long.MAX_VALUE), BAD_VALUE);
        due("put(the highest bit and eight)", tree.put(Long.MIN_VALUE | number("12345678")), BAD_VALUE);
        due("put(the highest bit and one)", tree.put(Long.MIN_VALUE | '+'), BAD_VALUE);
        due("put(the highest bits and one)", tree.put(-256L | '+'), BAD_VALUE);
        due("put(-1 as an int, and four)", tree.put(0xffffffffL), BAD_VALUE);
    }

    @Says(PUT_ERRORS)
    void upTo80Characters() {
        for (int number = 1; number <= 8; number++) {
            long characters = number("12345678".substring(0, number));
            LeaningTrees tree = padOf(FULL_PAD.substring(0, 80 - number + 1));
            due("put() of " + number + " to 81", tree.put(characters), TOO_MANY);
            due("count(13)", tree.count(13), 80 - number + 1);
            tree = padOf(FULL_PAD.substring(0, 80 - number));
            due("put() of " + number + " to 80", tree.put(characters), 80);
            due("count(13)", tree.count(13), 80);
        }
    }

    @Says(PUT_ERRORS)
    void nothingOfTooManyIsAppended() {
        LeaningTrees tree = padOf(FULL_PAD.substring(0, 77) + ";+");
        due("put(=;)", tree.put(number("=;")), TOO_MANY);
        due("put(9)", tree.put('9'), 80);
        due("fault()", tree.fault(), NONE);
        due("carryOut()", tree.carryOut(), 27);
    }

    // ---- Promise 18: wipe

    @Says("Empties the pad, and returns the length that it had.")
    void wipeOfNothing() {
        LeaningTrees tree = new LeaningTrees();
        due("wipe()", tree.wipe(), 0);
        due("count(13)", tree.count(13), 0);
        tree.put('+');
        due("wipe()", tree.wipe(), 1);
        due("wipe() again", tree.wipe(), 0);
    }

    @Says("Empties the pad, and returns the length that it had.")
    void wipeOfAFullPad() {
        LeaningTrees tree = padOf(FULL_PAD);
        due("wipe()", tree.wipe(), 80);
        due("count(13)", tree.count(13), 0);
        due("fault()", tree.fault(), 0);
        write(tree, FULL_PAD);
        due("count(13)", tree.count(13), 80);
        due("fault()", tree.fault(), NONE);
    }

    @Says("Empties the pad, and returns the length that it had.")
    void wipeIsNoChange() {
        changesNothing(tree -> layNodes(tree, 3), "put(+), wipe()", tree -> {
            tree.put('+');
            return tree.wipe();
        }, 1);
    }

    // ---- Promise 19: fault

    @Says("Returns the fault of the pad, NONE if there is none.")
    void faultLeavesThePad() {
        changesNothing(Edges::layBusy, "fault()", LeaningTrees::fault, NONE);
        Calls before = tree -> {
            layBusy(tree);
            tree.put('x');
        };
        changesNothing(before, "fault()", LeaningTrees::fault, 13);
    }

    @Says("Returns the fault of the pad, NONE if there is none.")
    void faultDoesNotAskTheTree() {
        faultOf("-5", NONE);
        faultOf("!5", NONE);
        LeaningTrees tree = nodes(60);
        write(tree, "+5");
        due("fault() in sixty nodes", tree.fault(), NONE);
    }

    // ---- Promise 20: carryOut

    @Says(CARRY_OUT)
    void theFirstOrderFails() {
        LeaningTrees tree = calmWith("-5;+6", 1, 2);
        due("carryOut()", tree.carryOut(), 0);
        due("value(6)", tree.value(6), NONE);
        due("count(13)", tree.count(13), 0);
    }

    @Says(CARRY_OUT)
    void anOrderBetweenFails() {
        LeaningTrees tree = calmWith("+5;-6;+7", 1, 2);
        due("carryOut()", tree.carryOut(), 1);
        due("value(5): it stays", tree.value(5), 5);
        due("value(7)", tree.value(7), NONE);
        due("count(13)", tree.count(13), 0);
    }

    @Says(CARRY_OUT)
    void theLastOrderFails() {
        LeaningTrees tree = calmWith("+5;-1;!6", 1, 2);
        due("carryOut()", tree.carryOut(), 2);
        due("value(5)", tree.value(5), 5);
        due("value(1)", tree.value(1), NONE);
        due("count(13)", tree.count(13), 0);
    }

    @Says(CARRY_OUT)
    void noOrderFails() {
        LeaningTrees tree = calmWith("+5=6;-1;!2", 1, 2);
        due("carryOut()", tree.carryOut(), 3);
        shape("carried out", tree, "1~(. 2(. 5))");
        due("count(4)", tree.count(4), 2);
        due("count(13)", tree.count(13), 0);
    }

    @Says(CARRY_OUT)
    void eachKindOfErrorEndsIt() {
        LeaningTrees tree = hollowAt(calm(1, 2, 3), 3);
        for (String wrong : new String[] {"-4", "-3", "!4"}) {
            write(tree, wrong + ";+9");
            due("carryOut() of " + wrong, tree.carryOut(), 0);
        }
        due("value(9)", tree.value(9), NONE);
        tree = nodes(60);
        write(tree, "+0=5;+5;+10=6");
        due("carryOut(): no room for +5", tree.carryOut(), 1);
        due("value(0)", tree.value(0), 5);
        due("value(10)", tree.value(10), 1);
    }

    @Says(CARRY_OUT)
    void whatRebuildsIsNoError() {
        LeaningTrees tree = padOf("+1;+2;+3;+4;!2;-4;-3;+5");
        due("carryOut()", tree.carryOut(), 8);
        due("count(7)", tree.count(7), 3);
        shape("carried out", tree, "1(. 2(. 5))");
    }

    @Says(CARRY_OUT)
    void anOrderSeesWhatThoseBeforeDid() {
        LeaningTrees tree = calmWith("+5;-5;-5;+6");
        due("carryOut(): the second -5 fails", tree.carryOut(), 2);
        due("count(0)", tree.count(0), 0);
        tree = hollowAt(nodes(60), 0);
        write(tree, "!" + tree.count(2) + ";+5");
        due("carryOut(): the first order makes room", tree.carryOut(), 2);
        due("value(5)", tree.value(5), 5);
    }

    @Says(CARRY_OUT)
    void nothingOfAnOldTextIsLeft() {
        LeaningTrees tree = calmWith("+5=7;-9;+6=8");
        due("carryOut()", tree.carryOut(), 1);
        due("carryOut() of the empty pad", tree.carryOut(), BAD_TEXT);
        write(tree, "+3");
        due("count(13)", tree.count(13), 2);
        due("carryOut()", tree.carryOut(), 1);
        due("value(3)", tree.value(3), 3);
        due("value(6)", tree.value(6), NONE);
    }

    @Says(ONE_CHANGE)
    void allOrdersAreOneChange() {
        LeaningTrees tree = padOf(FULL_PAD);
        due("carryOut()", tree.carryOut(), 27);
        due("count(14)", tree.count(14), 1);
        due("undo()", tree.undo(), 0);
        due("count(0)", tree.count(0), 0);
        due("count(7)", tree.count(7), 0);
        due("undo()", tree.undo(), NOT_POSSIBLE);
    }

    @Says(ONE_CHANGE)
    void noneCarriedOutIsAChangeToo() {
        LeaningTrees tree = padOf("-5;+6");
        due("carryOut()", tree.carryOut(), 0);
        due("count(14)", tree.count(14), 1);
        due("undo()", tree.undo(), 0);
    }

    @Says("BAD_TEXT if the pad has a fault (then it stays).")
    void aPadWithAFaultStays() {
        LeaningTrees tree = calmWith("+5;+6=");
        due("carryOut(): it ends too early", tree.carryOut(), BAD_TEXT);
        due("count(13)", tree.count(13), 6);
        due("count(0): nothing ahead of the fault was carried out", tree.count(0), 0);
        due("put(7)", tree.put('7'), 7);
        due("carryOut()", tree.carryOut(), 2);
        due("value(6)", tree.value(6), 7);
        write(tree, "+8;x");
        due("carryOut(): x", tree.carryOut(), BAD_TEXT);
        due("count(13)", tree.count(13), 4);
        due("fault()", tree.fault(), 3);
        due("value(8)", tree.value(8), NONE);
    }
}
