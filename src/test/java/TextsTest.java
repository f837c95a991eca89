/** The edges that 'Texts' in the terms and the promises 19 to 22 name: a test for each sentence, which stands above it. */
public final class TextsTest extends Checks {
    private static final int[] FAR = {Integer.MIN_VALUE, Integer.MAX_VALUE};

    public static void main(String[] args) {
        runAll(TextsTest.class);
    }

    // "There is a text of at most 80 characters, initially empty"
    static void theTextIsEmptyAtFirst() {
        SealedGroups x = new SealedGroups();
        due(x.count(12), 0);
        due(x.clearText(), 0);
        due(x.type('c'), 1);
    }

    // "There is a text of at most 80 characters, initially empty"
    static void the80thCharacterIsTakenAndThe81stIsNot() {
        SealedGroups x = new SealedGroups();
        typeAll(x, "c;".repeat(39) + "c");
        due(x.count(12), 79);
        due(x.type(';'), 80);
        due(x.type('c'), LIMIT);
        due(x.type(';'), LIMIT);
        due(x.count(12), 80);
        due(x.play(), 40);
        due(x.clearText(), 80);
        due(x.type('c'), 1);
    }

    // "`character`: 32 to 126"
    static void charactersGoFrom32To126() {
        SealedGroups x = new SealedGroups();
        due(x.type(31), INVALID);
        due(x.type(127), INVALID);
        due(x.type(0), INVALID);
        due(x.type(-1), INVALID);
        for (int far : FAR) {
            due(x.type(far), INVALID);
        }
        due(x.type(65536 + 'c'), INVALID);
        due(x.type(32), 1);
        due(x.type(126), 2);
    }

    // "INVALID_ARGUMENT if character is out of range; LIMIT_REACHED if it has 80 characters."
    static void aWrongCharacterIsInvalidForAFullTextToo() {
        SealedGroups x = new SealedGroups();
        typeAll(x, "!".repeat(80));
        due(x.type(31), INVALID);
        due(x.type(127), INVALID);
        due(x.type(32), LIMIT);
    }

    // "Returns the length it had."
    static void clearTextTellsTheLength() {
        SealedGroups x = new SealedGroups();
        due(x.clearText(), 0);
        typeAll(x, "~");
        due(x.clearText(), 1);
        due(x.clearText(), 0);
        typeAll(x, " ".repeat(80));
        due(x.clearText(), 80);
        due(x.count(12), 0);
        due(x.fault(0), NOT_FOUND);
    }

    // "NOT_FOUND if the text has no fault (also if it is empty)"
    static void theFaultIsGoneWithTheText() {
        SealedGroups x = new SealedGroups();
        faultIs(x, "c;!", 2, 1, 0);
        x.clearText();
        for (int what = 0; what < 3; what++) {
            due(x.fault(what), NOT_FOUND);
        }
        due(x.play(), 0);
    }

    // "orders, each followed by ";": "b" a group (it is begun), "w" a group, ",", a page, ",", a value, "s" a group (it
    // is settled), "t" a group (it is taken back), "o" a page (it is written out), "c" (a checkpoint), "x" (a stop) or
    // "r" (a restart)"
    static void eachOrderDoesItsCall() {
        SealedGroups x = new SealedGroups();
        played(x, "b3;", 1);
        due(x.count(4), 8);
        played(x, "w3,7,99;", 1);
        due(x.pageOf(7, 0), 99);
        played(x, "o7;", 1);
        due(x.pageOf(7, 2), 99);
        played(x, "t3;", 1);
        due(x.recordOf(4, 0), 4);
        played(x, "b3;", 1);
        played(x, "s3;", 1);
        due(x.recordOf(6, 0), 2);
        played(x, "c;", 1);
        due(x.recordOf(7, 0), 5);
        played(x, "x;", 1);
        due(x.count(7), 1);
        played(x, "r;", 1);
        due(x.count(7), 0);
    }

    // ""x" (a stop)"
    static void theStopOfATextIsNotTorn() {
        SealedGroups x = after("b0;");
        x.force();
        played(x, "x;", 1);
        due(x.count(0), 1);
    }

    // "values of 1 or 2 digits (0 ahead allowed), others of one."
    static void valuesHave1Or2Digits() {
        SealedGroups x = after("b0;");
        String[] texts = {"w0,0,0;", "w0,0,00;", "w0,0,9;", "w0,0,09;", "w0,0,10;", "w0,0,99;"};
        int[] values = {0, 0, 9, 9, 10, 99};
        for (int i = 0; i < texts.length; i++) {
            played(x, texts[i], 1);
            due(texts[i], x.pageOf(0, 0), values[i]);
        }
        faultIs(x, "w0,0,;", 0, 1, 5);
        faultIs(x, "w0,0,000;", 0, 1, 7);
        faultIs(x, "w0,0,100;", 0, 1, 7);
        faultIs(x, "w0,0,-1;", 0, 1, 5);
        faultIs(x, "w0,0, 1;", 0, 1, 5);
    }

    // "values of 1 or 2 digits (0 ahead allowed), others of one."
    static void groupsAndPagesHaveOneDigit() {
        SealedGroups x = after("b0;w0,0,1;");
        faultIs(x, "b01;", 0, 1, 2);
        faultIs(x, "s00;", 0, 1, 2);
        faultIs(x, "t00;", 0, 1, 2);
        faultIs(x, "o00;", 0, 1, 2);
        faultIs(x, "w00,0,1;", 0, 1, 2);
        faultIs(x, "w0,00,1;", 0, 1, 4);
        faultIs(x, "b;", 0, 1, 1);
        faultIs(x, "o;", 0, 1, 1);
        faultIs(x, "w,0,1;", 0, 1, 1);
        faultIs(x, "w0,,1;", 0, 1, 3);
    }

    // "The fault of the text is the position, from 0, of the first character of the first order that is not possible"
    static void theFaultMayBeAtTheFirstOrTheLastOrder() {
        SealedGroups x = new SealedGroups();
        faultIs(x, "!", 0, 1, 0);
        faultIs(x, "s0;c;c;", 0, 3, NOT_FOUND);
        faultIs(x, "c;".repeat(39) + "c", 78, 1, 1);
        faultIs(x, "c;".repeat(39) + "c!", 78, 1, 1);
        faultIs(x, "c;".repeat(39) + "s0", 78, 1, 2);
        faultIs(x, "b0;" + "c;".repeat(37) + "s1;", 77, 3, NOT_FOUND);
        noFault(x, "c;".repeat(40));
    }

    // "the first character of the first order that is not possible"
    static void theFirstFaultIsTold() {
        SealedGroups x = new SealedGroups();
        faultIs(x, "c;s0;b9;!", 2, 3, NOT_FOUND);
        faultIs(x, "c;b9;s0;!", 2, 2, NOT_FOUND);
        faultIs(x, "c;!;s0;b9;", 2, 1, 0);
    }

    // "its reason is 1 if it is not of this form, its ";" included"
    static void anOrderWithoutItsEndIsNotOfTheForm() {
        SealedGroups x = after("b0;w0,0,1;");
        faultIs(x, "c", 0, 1, 1);
        faultIs(x, "c,", 0, 1, 1);
        faultIs(x, "b1", 0, 1, 2);
        faultIs(x, "o0", 0, 1, 2);
        faultIs(x, "s0 ;", 0, 1, 2);
        faultIs(x, "w0,0,1", 0, 1, 6);
        faultIs(x, "w0,0,11", 0, 1, 7);
        faultIs(x, "b1;;", 3, 1, 0);
    }

    // "its reason is 1 if it is not of this form"
    static void lettersAreThoseEightAlone() {
        SealedGroups x = after("b0;w0,0,1;b1;");
        String letters = "bwstocxr";
        for (char letter = 32; letter <= 126; letter++) {
            typeAll(x, String.valueOf(letter));
            due("reason of " + letter, x.fault(1), 1);
            due("cause of " + letter, x.fault(2), letters.indexOf(letter) < 0 ? 0 : 1);
        }
    }

    // "its reason is 1 if it is not of this form"
    static void digitsAreThoseTenAlone() {
        SealedGroups x = after("b0;w0,0,1;");
        faultIs(x, "b/;", 0, 1, 1);
        faultIs(x, "b:;", 0, 1, 1);
        faultIs(x, "w0,/,1;", 0, 1, 3);
        faultIs(x, "w0,:,1;", 0, 1, 3);
        faultIs(x, "w0,1,/;", 0, 1, 5);
        faultIs(x, "w0,1,:;", 0, 1, 5);
        faultIs(x, "w0,1,1/;", 0, 1, 6);
        faultIs(x, "w0,1,1:;", 0, 1, 6);
    }

    // "2 if there is no such group or page"
    static void groupsFrom4OnAndPagesFrom8OnAreNotThere() {
        SealedGroups x = after("b3;");
        for (int digit = 0; digit <= 9; digit++) {
            int reason = digit < 4 ? 3 : 2;
            if (digit != 3) {
                faultIs(x, "s" + digit + ";", 0, reason, NOT_FOUND);
                faultIs(x, "t" + digit + ";", 0, reason, NOT_FOUND);
                faultIs(x, "w" + digit + ",0,0;", 0, reason, NOT_FOUND);
            }
            faultIs(x, "o" + digit + ";", 0, digit < 8 ? 3 : 2, NOT_FOUND);
        }
        faultIs(x, "b4;", 0, 2, NOT_FOUND);
        faultIs(x, "b9;", 0, 2, NOT_FOUND);
        faultIs(x, "b3;", 0, 3, NOT_FOUND);
        noFault(x, "w3,7,1;");
        faultIs(x, "w3,8,1;", 0, 2, NOT_FOUND);
        faultIs(x, "w3,9,1;", 0, 2, NOT_FOUND);
    }

    // "its reason is 1 if it is not of this form, its ";" included, 2 if there is no such group or page, and 3 if it is
    // not possible otherwise"
    static void theFormGoesBeforeTheRangeAndTheRangeBeforeTheRest() {
        SealedGroups x = new SealedGroups();
        faultIs(x, "b9", 0, 1, 2);
        faultIs(x, "w9,9,", 0, 1, 5);
        faultIs(x, "w0,8,1;", 0, 2, NOT_FOUND);
        faultIs(x, "w4,0,1;", 0, 2, NOT_FOUND);
        filled(x, 60);
        faultIs(x, "b4;", 0, 2, NOT_FOUND);
        faultIs(x, "b0;", 0, 3, NOT_FOUND);
    }

    // "and 3 if it is not possible otherwise"
    static void eachOrderMayBeNotPossibleOtherwise() {
        SealedGroups x = after("b0;b1;w1,1,1;o1;");
        faultIs(x, "b0;", 0, 3, NOT_FOUND);
        faultIs(x, "w2,0,0;", 0, 3, NOT_FOUND);
        faultIs(x, "w0,1,0;", 0, 3, NOT_FOUND);
        faultIs(x, "s2;", 0, 3, NOT_FOUND);
        faultIs(x, "t2;", 0, 3, NOT_FOUND);
        faultIs(x, "o1;", 0, 3, NOT_FOUND);
        faultIs(x, "r;", 0, 3, NOT_FOUND);
        x.stop(0);
        faultIs(x, "c;", 0, 3, NOT_FOUND);
        faultIs(x, "x;", 0, 3, NOT_FOUND);
    }

    // "(by the records that there may be, too)"
    static void at60RecordsTheOrdersThatMakeOneAreNotPossible() {
        SealedGroups x = filled(after("b0;w0,0,1;"), 60);
        String[] making = {"b1;", "w0,1,1;", "s0;", "t0;", "c;"};
        for (String text : making) {
            faultIs(x, text, 0, 3, NOT_FOUND);
        }
        noFault(x, "o0;x;r;");
        faultIs(x, "x;r;c;", 4, 3, NOT_FOUND);
    }

    // "(by the records that there may be, too)"
    static void theRecordsThatATextMakesCountForTheLimit() {
        SealedGroups x = filled(new SealedGroups(), 57);
        noFault(x, "b0;w0,0,1;s0;");
        faultIs(x, "b0;w0,0,1;s0;c;", 13, 3, NOT_FOUND);
        faultIs(x, "b0;w0,0,1;t0;", 10, 3, NOT_FOUND);
        noFault(x, "b0;t0;c;");
    }

    // "when those ahead of it are done."
    static void ordersAreLookedAtWhenThoseAheadAreDone() {
        SealedGroups x = new SealedGroups();
        noFault(x, "b0;w0,0,1;o0;s0;b0;w0,0,2;t0;o0;x;r;b0;");
        faultIs(x, "b0;s0;s0;", 6, 3, NOT_FOUND);
        faultIs(x, "b0;w0,0,1;x;r;s0;", 14, 3, NOT_FOUND);
        due(x.count(0), 0);
    }

    // "The cause of a fault with the reason 1 is at which character of the order, from 0, it breaks off"
    static void theCauseIsWhereTheOrderBreaksOff() {
        SealedGroups x = after("b0;");
        String right = "w0,1,23;";
        for (int i = 0; i < right.length(); i++) {
            if (i == 6) {
                continue;
            }
            String wrong = right.substring(0, i) + "!" + right.substring(i + 1);
            faultIs(x, "c;" + wrong, 2, 1, i);
        }
        faultIs(x, "c;w0,1,2!;", 2, 1, 6);
    }

    // "it is not of this form, its ";" included"
    static void anOrderThatEndsTooEarlyIsNotOfTheForm() {
        SealedGroups x = after("b0;w0,1,2;");
        String[] texts = {";", "w;", "w0;", "w0,;", "w0,1;", "w0,1,;"};
        for (int i = 0; i < texts.length; i++) {
            faultIs(x, texts[i], 0, 1, i);
        }
        faultIs(x, "b;", 0, 1, 1);
        faultIs(x, "s;", 0, 1, 1);
        faultIs(x, "t;", 0, 1, 1);
        faultIs(x, "o;", 0, 1, 1);
    }

    // "(of one that the text ends too early it is its length)"
    static void theCauseOfAnOrderThatEndsTooEarlyIsItsLength() {
        SealedGroups x = after("b0;");
        String right = "w0,1,23;";
        for (int length = 1; length < right.length(); length++) {
            faultIs(x, "c;" + right.substring(0, length), 2, 1, length);
        }
        noFault(x, "c;" + right);
        noFault(x, "c;");
    }

    // "NOT_FOUND if the text has no fault (also if it is empty), for 2 if the reason is not 1."
    static void thereIsNoFaultOfAnEmptyTextNorACauseOfOtherReasons() {
        SealedGroups x = new SealedGroups();
        noFault(x, "");
        noFault(x, "c;");
        faultIs(x, "b7;", 0, 2, NOT_FOUND);
        faultIs(x, "t1;", 0, 3, NOT_FOUND);
        faultIs(x, "t", 0, 1, 1);
    }

    // "INVALID_ARGUMENT if what is out of range"
    static void faultTellsOfThreeThings() {
        SealedGroups x = new SealedGroups();
        for (String text : new String[] {"", "t"}) {
            typeAll(x, text);
            due(x.fault(-1), INVALID);
            due(x.fault(3), INVALID);
            for (int far : FAR) {
                due(x.fault(far), INVALID);
            }
        }
    }

    // "Does all orders of the text, which stays."
    static void theTextStaysBehindAPlay() {
        SealedGroups x = new SealedGroups();
        typeAll(x, "c;c;");
        due(x.play(), 2);
        due(x.count(12), 4);
        due(x.play(), 2);
        due(x.count(0), 4);
        due(x.type('c'), 5);
        due(x.play(), NOT_POSSIBLE);
        due(x.count(0), 4);
    }

    // "They are one change, also if there are none."
    static void aPlayIsOneChangeAlsoOfNoOrders() {
        SealedGroups x = new SealedGroups();
        due(x.play(), 0);
        due(x.count(11), 1);
        typeAll(x, "c;".repeat(40));
        due(x.play(), 40);
        due(x.count(11), 2);
        due(x.undo(), 1);
        due(x.count(0), 0);
        due(x.undo(), 0);
        due(x.undo(), NOT_POSSIBLE);
        due(x.count(12), 80);
    }

    // "Returns how many there are in it; NOT_POSSIBLE if it has a fault."
    static void aTextWithAFaultInItsLastOrderDoesNothing() {
        SealedGroups x = new SealedGroups();
        String[] texts = {"c;b0;w0,0,1;c", "c;b0;w0,0,1;b4;", "c;b0;w0,0,1;b0;"};
        for (String text : texts) {
            typeAll(x, text);
            due(x.play(), NOT_POSSIBLE);
            due(x.count(0), 0);
            due(x.count(4), 0);
            due(x.count(5), 0);
            due(x.count(11), 0);
        }
    }

    // "(of a text the orders are looked at one by one; "r" may be the first one)"
    static void ofAStoppedStoreTheFirstOrderIsARestart() {
        SealedGroups x = after("b0;w0,0,5;s0;x;");
        String[] others = {"b1;", "w0,1,1;", "s0;", "t0;", "o0;", "c;", "x;"};
        for (String text : others) {
            faultIs(x, text, 0, 3, NOT_FOUND);
            due(x.play(), NOT_POSSIBLE);
        }
        faultIs(x, "r;r;", 2, 3, NOT_FOUND);
        played(x, "r;b1;w1,1,1;o0;c;x;r;", 7);
        due(x.count(7), 0);
        due(x.count(10), 2);
    }

    // "While the store is stopped, each change but restart and play is NOT_POSSIBLE"
    static void aTextWithoutOrdersIsPlayedWhileStoppedToo() {
        SealedGroups x = after("x;");
        due(x.play(), 0);
        due(x.count(7), 1);
        due(x.count(11), 2);
    }
}
