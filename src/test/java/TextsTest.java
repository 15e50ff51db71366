/** Promises 25 to 30: commands as texts, faults, reasons, and the line. */
public final class TextsTest {
    private static final String STUCK_TWO = "join(0, 1, 1) = 0; join(0, 1, 1) = 1; pass(22) = 20";

    public static void main(String[] args) {
        append();
        commands();
        allOrNone();
        numbersOutOfRange();
        faults();
        faultsAfterLongerTexts();
        texts();
        faultPosition();
        reason();
        line();
        character();
        Script.end();
    }

    private static void append() {
        String thirty = "t1;t1;t1;t1;t1;t1;t1;t1;t1;t1;";
        Script.check("25, append",
            "append('t') = 1; append(' ') = 2; append(0) = 3; append(255) = 4; append(65535) = 5; account(11) = 5",
            "commands() = throws IllegalArgumentException; account(11) = 0; append('t') = 1");
        Script.check("25, append to a full buffer",
            "type(\"" + thirty + "\") = 30; type(\"" + thirty.substring(1) + "\") = 59; append(' ') = 60; account(11) = 60",
            "append('t') = throws IllegalStateException; append('t') = throws IllegalStateException; account(11) = 60",
            "commands() = throws IllegalArgumentException; faultPosition() = 30; append('t') = 1");
    }

    private static void commands() {
        Script.check("26, commands",
            "say(\"+l12;+r34;m0r;k156;w1;p5\") = 6; seat(0) = \"1 1 2 0 1 0 0 0 0 0\"; seat(1) = \"1 5 6 0 3 0 0 0 0 0\"",
            "account(3) = 1; account(2) = 25; account(10) = 1; account(11) = 0; faultPosition() = -1",
            "say(\"t1\") = 1; account(0) = 1; eaters() = 1; say(\"p75\") = 1; account(2) = 99; say(\"t02;t10\") = 2; account(0) = 13",
            "account(10) = 4; undo() = 3; account(0) = 1; undo() = 2; undo() = 1; undo() = 0; account(1) = 0");
        Script.check("26, commands for leaving and taking away", STUCK_TWO,
            "say(\"d0;d1;-;w8\") = 4; account(1) = 1; account(9) = 2; account(3) = 8; account(6) = 0; account(10) = 4",
            "say(\"+r99\") = 1; seat(1) = \"1 9 9 0 9 0 0 0 0 0\"; say(\"m1l\") = 1; seatOf(1, 0) = 0; say(\"k021\") = 1",
            "seatOf(0, 1) = 2; seatOf(0, 2) = 1; say(\"w0\") = 1; account(3) = 0; say(\"t99\") = 1; account(0) = 121");
        Script.check("26, as many commands as there can be",
            "say(\"+l11;+l11;+l11;+l11;+l11;+l11;+l11;+l11;-;-;-;-;-;-;-;-\") = 16; account(1) = 0; account(10) = 1",
            "say(\"p1;p1;p1;p1;p1;p1;p1;p1;p1;p1;p1;p1;p1;p1;p1;p1;p1;p1;p1;p1\") = 20; account(2) = 40",
            "say(\"p1;+l11;+l11;-;+l11;-;+l11;-;+l11;-;+l11;-;+l11;-;+l11;-;+l1\") = throws IllegalArgumentException",
            "faultPosition() = 60");
        Script.check("26, the most commands",
            "say(\"+l11;+l11;+l11;+l11;+l11;+l11;+l11;+l11\") = 8; say(\"-;-;-;-;-;-;-;-;-;-;-;-;-;-;-;-;-;-;-;-;-;-;-;-;-;-;-;-;-;-\")"
                + " = throws UnsupportedOperationException; reasons() = \"5 0 8\"; account(1) = 8; faultPosition() = -1");
    }

    private static void allOrNone() {
        Script.check("26, if one is refused, none is carried out",
            "say(\"p1;w1;p99\") = throws UnsupportedOperationException; reasons() = \"2 99 2\"; account(11) = 0",
            "accounts() = \"0 0 20 0 0 0 0 0 0 0 0 0\"; faultPosition() = -1; say(\"+l11;+r11;t9;d5;w0\") = throws "
                + "UnsupportedOperationException; reasons() = \"3 5 3\"; accounts() = \"0 0 20 0 0 0 0 0 0 0 0 0\"",
            "say(\"-\") = throws UnsupportedOperationException; reasons() = \"5 0 0\"; undo() = throws IllegalStateException");
        Script.check("26, what later commands need can come by earlier ones",
            "say(\"w3;w3\") = throws UnsupportedOperationException; reasons() = \"7 0 1\"; account(3) = 0; say(\"w3;w0;w3\") = 3",
            "account(3) = 3; say(\"+l11;t1\") = throws UnsupportedOperationException; reasons() = \"5 1 1\"; account(1) = 0",
            "say(\"+l11;+l11;t1;-\") = throws UnsupportedOperationException; reasons() = \"4 2 3\"; account(0) = 0",
            "say(\"+l11;m0l\") = throws UnsupportedOperationException; reasons() = \"7 0 1\"; say(\"+l11;+l11;t01;d0\") = throws "
                + "UnsupportedOperationException; reasons() = \"6 4 3\"; account(10) = 1");
    }

    private static void numbersOutOfRange() {
        for (String text : new String[] {"+l01", "+r10", "w9", "p0", "p00", "t0", "t00"}) {
            Script.check("26, a number out of range is refused, and is no fault",
                "say(\"" + text + "\") = throws UnsupportedOperationException; reasons() = \"1 0 0\"; faultPosition() = -1");
        }
        for (String text : new String[] {"m9l", "k900", "d9"}) {
            Script.check("26, a seat that is not there is refused, and is no fault",
                "say(\"" + text + "\") = throws UnsupportedOperationException; reasons() = \"3 9 0\"; faultPosition() = -1");
        }
        Script.check("26, clocks out of range", "join(0, 1, 1) = 0; say(\"w1;k001\") = throws UnsupportedOperationException",
            "reasons() = \"1 0 1\"; say(\"k010\") = throws UnsupportedOperationException; reasons() = \"1 0 0\"");
        Script.check("26, two digits are one number", "say(\"p07\") = 1; account(2) = 27; say(\"p70\") = 1; account(2) = 97");
    }

    /** Each text with a "|" before its fault. */
    private static void faults() {
        String[] texts = {
            "|", "|;", "|x", "|T1", "| t1", "|1", "|l", "|\u0001",
            "+|", "+|x", "+|1", "+|-", "+l|", "+l|l", "+l|;", "+l1|", "+l1|x", "+l1|;", "+l1|r", "+l11|1", "+l11;|;", "+r99|r",
            "-|1", "-|-", "-|l", "-;|", "-;|;", "-;|1",
            "m|", "m|l", "m|;", "m0|", "m0|1", "m0|x", "m0|;", "m0l|1", "m0r|l", "m0l|m0r",
            "k|", "k|r", "k0|", "k0|;", "k01|", "k01|;", "k01|l", "k012|3", "k012;|",
            "w|", "w|;", "w|l", "w1|2", "w1|w1",
            "p|", "p|;", "p|p", "p1|p", "p12|3", "p1;|", "p12;|",
            "d|", "d|l", "d1|2", "d1|d", "t|", "t|x", "t|;", "t1|x", "t1| ", "t12|3", "t1|,t1", "t1;|;t1", "t1;|x", "t1;t|",
            "t1;t1;|", "t1;m0|m", "p1;p2;p3;|;", "t|/", "t|:", "t1|/", "t1|:", "w|/", "w|:", "m0|k", "m0|s", "t|\u0131", "t|\u0661"};
        for (String marked : texts) {
            int fault = marked.indexOf('|');
            String text = marked.substring(0, fault) + marked.substring(fault + 1);
            Script.check("27, the fault of " + marked,
                "say(\"" + text + "\") = throws IllegalArgumentException; faultPosition() = " + fault + "; account(11) = 0",
                "reason(0) = throws NoSuchElementException; accounts() = \"0 0 20 0 0 0 0 0 0 0 0 0\"");
        }
    }

    private static void faultsAfterLongerTexts() {
        Script.check("27, what an earlier text had there does not count",
            "say(\"m0l;t9\") = throws UnsupportedOperationException; say(\"m0\") = throws IllegalArgumentException",
            "faultPosition() = 2; say(\"m0r;t9\") = throws UnsupportedOperationException",
            "say(\"m0\") = throws IllegalArgumentException; faultPosition() = 2; say(\"p11;p22\") = 2; say(\"p1\") = 1",
            "account(2) = 54; say(\"p\") = throws IllegalArgumentException; faultPosition() = 1");
    }

    private static void texts() {
        for (String text : new String[] {"+l11", "+r99", "w1", "p1", "p01", "p79", "+l11;-", "+l11;m0r", "+l11;k099", "+l11;+l11;t1"}) {
            Script.check("27, no fault", "say(\"x\") = throws IllegalArgumentException; faultPosition() = 0",
                "say(\"" + text + "\") = " + text.split(";").length + "; faultPosition() = -1; account(10) = 1");
        }
    }

    private static void faultPosition() {
        Script.check("27, faultPosition",
            "faultPosition() = -1; type(\"t1x\") = 3; faultPosition() = -1; commands() = throws IllegalArgumentException",
            "faultPosition() = 2; type(\"p1\") = 2; faultPosition() = 2; bring(1) = 21; undo() = 0; save() = 0; restore() = 0",
            "faultPosition() = 2; commands() = 1; faultPosition() = -1; commands() = throws IllegalArgumentException",
            "faultPosition() = 0; say(\"t1\") = throws UnsupportedOperationException; faultPosition() = -1");
        Script.check("26, the buffer stays with undo and restore",
            "bring(1) = 21; save() = 0; type(\"p1\") = 2; undo() = 0; account(11) = 2; restore() = 0; account(11) = 2",
            "commands() = 1; account(2) = 22");
    }

    private static void reason() {
        Script.check("28, reason",
            "reason(3) = throws IllegalArgumentException; reason(-1) = throws IllegalArgumentException",
            "reason(0) = throws NoSuchElementException; reason(1) = throws NoSuchElementException",
            "reason(2) = throws NoSuchElementException; say(\"p1;x\") = throws IllegalArgumentException",
            "reason(0) = throws NoSuchElementException; say(\"p1;p1;d3\") = throws UnsupportedOperationException",
            "reason(0) = 3; reason(1) = 3; reason(2) = 2; reason(3) = throws IllegalArgumentException",
            "reason(-1) = throws IllegalArgumentException; bring(1) = 21; reasons() = \"3 3 2\"; say(\"w1\") = 1",
            "reasons() = \"3 3 2\"; undo() = 1; save() = 0; restore() = 0; reasons() = \"3 3 2\"",
            "say(\"y\") = throws IllegalArgumentException; reasons() = \"3 3 2\"; seatOf(5, 5) = throws IndexOutOfBoundsException",
            "reasons() = \"3 3 2\"; bring(0) = throws UnsupportedOperationException; reasons() = \"1 0 0\"");
    }

    private static void line() {
        Script.check("29, line",
            "written() = \"\"; join(0, 1, 9) = 0; written() = \"0l.\"; join(1, 1, 9) = 1; written() = \"0l. 1r.\"; join(1, 9, 9) = 2",
            "written() = \"0l. 1r. 2r.\"; line() = 11; pass(1) = 0; written() = \"0l2 1r1 2r.\"; waiter(1) = 0; pass(8) = 0",
            "written() = \"0l2 1r1 2r?\"");
        Script.check("29, one that waits for its first ladle",
            "join(0, 1, 9) = 0; join(0, 1, 9) = 1; pass(1) = 0; written() = \"0l2 1l_\"; line() = 7");
        Script.check("29, stuck seats", STUCK_TWO,
            "written() = \"0l1! 1l1!\"; line() = 9; manner(1, 1) = 3; written() = \"0l1! 1r1!\"; take(1) = 0; written() = \"0l1 1r_\"");
        Script.check("29, a line of eight stuck seats",
            "join(1, 1, 1) = 0; join(1, 1, 1) = 1; pass(21) = 20; take(0) = 0",
            "say(\"+r11;+r11;+r11;+r11;+r11;+r11\") = 6; pass(1) = 0; line() = 39; character(38) = '!'",
            "written() = \"0r1! 1r1! 2r1! 3r1! 4r1! 5r1! 6r1! 7r1!\"; ring() = 255; stuck() = 255; stuckAgain() = 255");
    }

    private static void character() {
        Script.check("30, character",
            "character(0) = throws IndexOutOfBoundsException; join(1, 1, 9) = 0; character(0) = throws IndexOutOfBoundsException",
            "line() = 3; character(0) = '0'; character(1) = 'r'; character(2) = '.'; character(3) = throws IndexOutOfBoundsException",
            "character(-1) = throws IndexOutOfBoundsException; character(2147483647) = throws IndexOutOfBoundsException",
            "manner(0, 0) = 0; character(1) = 'r'; undo() = 1; undo() = 0; character(1) = 'r'; save() = 0; restore() = 0",
            "character(2) = '.'; join(0, 1, 1) = 0; join(0, 1, 1) = 1; line() = 7; character(3) = ' '; leave() = 1; line() = 3",
            "character(3) = throws IndexOutOfBoundsException; leave() = 0; line() = 0; character(0) = throws IndexOutOfBoundsException");
    }
}
