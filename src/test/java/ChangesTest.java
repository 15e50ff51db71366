/** Promises 1 to 9: a new object, and the calls that change it. */
public final class ChangesTest {
    private static final String LEFT_HANDED_THREE = "join(0, 1, 9) = 0; join(0, 1, 9) = 1; join(0, 1, 9) = 2; pass(1) = 0";
    /** One begins to eat in each tick; with the last bowl gone, each holds its left ladle in the tick 22. */
    private static final String STUCK_TWO = "join(0, 1, 1) = 0; join(0, 1, 1) = 1; pass(22) = 20";

    public static void main(String[] args) {
        newObject();
        join();
        joinRefused();
        leave();
        oneLadleHeld();
        leaveTakesAllWithIt();
        manner();
        mannerOfWhoHoldsALadle();
        clocks();
        waiter();
        waiterKeepsTheOrder();
        bring();
        take();
        pass();
        passRefused();
        Script.end();
    }

    private static void newObject() {
        Script.check("1, a new object",
            "accounts() = \"0 0 20 0 0 0 0 0 0 0 0 0\"; eaters() = 0; ring() = 0; stuck() = 0; stuckAgain() = 0",
            "isSure() = false; mealsIn(9) = 0; stuckIn() = throws NoSuchElementException; rounds() = 0",
            "hungriest(0) = throws NoSuchElementException; asking(0) = throws NoSuchElementException",
            "seatOf(0, 0) = throws IndexOutOfBoundsException; ladle(0, true) = throws IndexOutOfBoundsException",
            "holder(0) = throws IndexOutOfBoundsException; waitsFor(0) = throws IndexOutOfBoundsException",
            "areNeighbours(0, 0) = throws IndexOutOfBoundsException; faultPosition() = -1",
            "reason(0) = throws NoSuchElementException; character(0) = throws IndexOutOfBoundsException; line() = 0",
            "meanWait() = throws ArithmeticException; fairness() = throws ArithmeticException",
            "undo() = throws IllegalStateException; restore() = throws IllegalStateException; save() = 0");
    }

    private static void join() {
        Script.check("2, join",
            "join(0, 1, 9) = 0; join(1, 9, 1) = 1; account(1) = 2; account(10) = 2",
            "seat(0) = \"0 1 9 0 1 0 0 0 0 0\"; seat(1) = \"1 9 1 0 9 0 0 0 0 0\"",
            "join(0, 5, 5) = 2; join(0, 5, 5) = 3; join(0, 5, 5) = 4; join(0, 5, 5) = 5; join(0, 5, 5) = 6",
            "join(1, 5, 5) = 7; join(1, 5, 5) = throws UnsupportedOperationException; reasons() = \"2 8 0\"",
            "join(2, 5, 5) = throws UnsupportedOperationException; reasons() = \"1 0 0\"; account(1) = 8",
            "pass(1) = 0; account(6) = 2; join(0, 1, 1) = throws UnsupportedOperationException; reasons() = \"2 8 0\"");
    }

    private static void joinRefused() {
        Script.check("2, join with a number out of range",
            "join(-1, 1, 1) = throws UnsupportedOperationException; reasons() = \"1 0 0\"",
            "take(7) = throws UnsupportedOperationException; reasons() = \"3 7 0\"",
            "join(2, 1, 1) = throws UnsupportedOperationException; reasons() = \"1 0 0\"",
            "join(0, 0, 1) = throws UnsupportedOperationException; join(0, 10, 1) = throws UnsupportedOperationException",
            "join(0, 1, 0) = throws UnsupportedOperationException; join(0, 1, 10) = throws UnsupportedOperationException",
            "join(2147483647, -2147483648, 2147483647) = throws UnsupportedOperationException; account(1) = 0",
            "account(10) = 0; join(1, 1, 1) = 0; reasons() = \"1 0 0\"");
        Script.check("2, join while ladles are held", LEFT_HANDED_THREE,
            "join(0, 1, 1) = throws UnsupportedOperationException; reasons() = \"4 3 0\"; account(1) = 3",
            "join(0, 1, 0) = throws UnsupportedOperationException; reasons() = \"1 0 0\"");
    }

    private static void leave() {
        Script.check("3, leave",
            "leave() = throws UnsupportedOperationException; reasons() = \"5 0 0\"; join(0, 1, 1) = 0; join(0, 9, 1) = 1",
            "leave() = 1; leave() = 0; leave() = throws UnsupportedOperationException; account(10) = 4");
        Script.check("3, leave while ladles are held", LEFT_HANDED_THREE,
            "leave() = throws UnsupportedOperationException; reasons() = \"4 3 0\"; account(1) = 3");
    }

    private static void oneLadleHeld() {
        Script.check("2 and 3, while just one ladle is held",
            "join(0, 1, 1) = 0; join(1, 1, 1) = 1; pass(99) = 20; account(6) = 1",
            "join(0, 1, 1) = throws UnsupportedOperationException; reasons() = \"4 1 0\"; bring(1) = 1",
            "leave() = throws UnsupportedOperationException; reasons() = \"4 1 0\"; account(1) = 2");
    }

    private static void leaveTakesAllWithIt() {
        Script.check("3, what a seat has had goes with it",
            "join(0, 9, 1) = 0; join(0, 1, 1) = 1; pass(2) = 1; account(4) = 1; leave() = 1; account(4) = 0",
            "account(5) = 1; account(0) = 2; meanWait() = throws ArithmeticException",
            "fairness() = throws ArithmeticException; join(1, 2, 3) = 1; seat(1) = \"1 2 3 0 2 0 0 0 0 0\"");
        Script.check("3, one that asks leaves",
            "join(0, 1, 1) = 0; join(0, 1, 1) = 1; waiter(1) = 0; pass(22) = 20; written() = \"0l1 1l?\"; asking(0) = 1",
            "take(0) = 1; leave() = 1; account(8) = 0; asking(0) = throws NoSuchElementException; account(7) = 1",
            "written() = \"0l_\"; account(4) = 10; account(5) = 20; waitsFor(0) = throws NoSuchElementException",
            "stuck() = 0; stuckAgain() = 0; stuckIn() = throws NoSuchElementException; mealsIn(9) = 0; join(1, 2, 2) = 1",
            "pass(1) = 0; written() = \"0l1 1r.\"; pass(1) = 0; written() = \"0l1 1r?\"; asking(0) = 1");
    }

    private static void manner() {
        Script.check("4, manner",
            "join(0, 1, 1) = 0; manner(0, 1) = 0; seatOf(0, 0) = 1; manner(0, 1) = throws UnsupportedOperationException",
            "reasons() = \"7 0 0\"; manner(0, 2) = throws UnsupportedOperationException; reasons() = \"1 0 0\"",
            "manner(1, 2) = throws UnsupportedOperationException; reasons() = \"3 1 0\"",
            "manner(0, -1) = throws UnsupportedOperationException; reasons() = \"1 0 0\"",
            "manner(-7, 0) = throws UnsupportedOperationException; reasons() = \"3 -7 0\"; manner(0, 0) = 0",
            "seatOf(0, 0) = 0; account(10) = 3");
        Script.check("4, manner of one that asks or eats",
            "join(0, 1, 1) = 0; join(0, 1, 1) = 1; waiter(1) = 0; pass(1) = 0; manner(0, 1) = 4; manner(1, 1) = 1",
            "eaters() = 1; pass(1) = 1; eaters() = 2");
    }

    private static void mannerOfWhoHoldsALadle() {
        Script.check("4, one that holds its first ladle keeps it", LEFT_HANDED_THREE,
            "written() = \"0l2 1l_ 2l1\"; holder(1) = 2; waitsFor(2) = 0; manner(2, 1) = 3; holder(1) = 2; waitsFor(2) = 0",
            "ladle(2, true) = 2; ladle(2, false) = 1; written() = \"0l2 1l_ 2r1\"; take(2) = 1; seatOf(2, 3) = 2",
            "waitsFor(2) = 0; holder(1) = -1");
        Script.check("4, it takes the one that it does not hold",
            "join(0, 1, 1) = 0; join(0, 1, 1) = 1; join(0, 1, 1) = 2; pass(1) = 0; manner(2, 1) = 3; pass(1) = 1",
            "written() = \"0l. 1l1 2r2\"; holder(1) = 2; holder(2) = 2; waitsFor(1) = 2");
        Script.check("4, one that waits for its first ladle waits for the other one then", LEFT_HANDED_THREE,
            "waitsFor(1) = 0; manner(1, 1) = 2; waitsFor(1) = 2; take(2) = 1; waitsFor(1) = throws NoSuchElementException",
            "pass(1) = 0; written() = \"0l2 1r1 2l_\"; waitsFor(1) = 0; waitsFor(2) = 1");
        Script.check("4, it goes from one that waits in a ring", STUCK_TWO,
            "ring() = 3; manner(0, 1) = 3; ring() = 3; stuck() = 3; stuckAgain() = 3; take(0) = 1; seatOf(0, 3) = 2",
            "waitsFor(0) = 1; waitsFor(1) = throws NoSuchElementException; ring() = 0");
    }

    private static void clocks() {
        Script.check("5, clocks",
            "join(0, 2, 1) = 0; join(0, 9, 9) = 1; clocks(0, 3, 8) = 21; clocks(0, 4, 9) = 38; seatOf(0, 1) = 4",
            "seatOf(0, 2) = 9; seatOf(0, 4) = 2; pass(2) = 0; seat(0) = \"0 4 9 4 9 0 0 0 0 1\"; clocks(0, 5, 1) = 49",
            "seatOf(0, 4) = 9; pass(8) = 0; seatOf(0, 4) = 1; pass(1) = 1; seatOf(0, 3) = 0; seatOf(0, 4) = 5");
        Script.check("5, clocks refused",
            "clocks(0, 0, 0) = throws UnsupportedOperationException; reasons() = \"3 0 0\"; join(0, 1, 1) = 0",
            "clocks(0, 0, 1) = throws UnsupportedOperationException; reasons() = \"1 0 0\"",
            "clocks(-1, 1, 1) = throws UnsupportedOperationException; reasons() = \"3 -1 0\"",
            "clocks(0, 10, 1) = throws UnsupportedOperationException; clocks(0, 1, 0) = throws UnsupportedOperationException",
            "clocks(0, 1, 10) = throws UnsupportedOperationException; reasons() = \"1 0 0\"; account(10) = 1",
            "clocks(0, 1, 1) = 11; account(10) = 2");
    }

    private static void waiter() {
        Script.check("6, waiter",
            "waiter(0) = throws UnsupportedOperationException; reasons() = \"7 0 0\"; waiter(8) = 0; account(3) = 8",
            "waiter(-1) = throws UnsupportedOperationException; reasons() = \"1 0 0\"; waiter(1) = 8",
            "waiter(1) = throws UnsupportedOperationException; reasons() = \"7 0 0\"",
            "waiter(9) = throws UnsupportedOperationException; reasons() = \"1 0 0\"; waiter(0) = 1; account(10) = 3");
        Script.check("6, none loses leave", LEFT_HANDED_THREE, "waiter(1) = 0; account(7) = 3; pass(1) = 0; account(7) = 3");
    }

    private static void waiterKeepsTheOrder() {
        Script.check("6, those that ask get leave in their order",
            "join(0, 1, 3) = 0; join(0, 1, 3) = 1; join(0, 1, 3) = 2; join(0, 1, 3) = 3; waiter(1) = 0; pass(1) = 0",
            "written() = \"0l2 1l? 2l? 3l?\"; asking(0) = 1; asking(1) = 2; asking(2) = 3; account(7) = 1; account(8) = 3",
            "pass(3) = 1; written() = \"0l. 1l2 2l? 3l?\"; asking(0) = 2; pass(1) = 0; asking(0) = 2; asking(1) = 3",
            "asking(2) = 0; asking(3) = throws NoSuchElementException; waiter(3) = 1; pass(1) = 0",
            "written() = \"0l? 1l2 2l_ 3l2\"; seat(0) = \"0 1 3 1 0 1 2 2 2 0\"; seat(1) = \"0 1 3 4 1 0 3 0 3 1\"",
            "seat(2) = \"0 1 3 2 0 0 6 6 6 1\"; seat(3) = \"0 1 3 4 3 0 5 0 5 1\"; waiter(2) = 3; account(7) = 3",
            "asking(0) = 0; stuck() = 0; stuckAgain() = 0; pass(1) = 1; account(7) = 2; asking(0) = 0");
    }

    private static void bring() {
        Script.check("7, bring",
            "bring(1) = 21; bring(78) = 99; account(2) = 99; bring(1) = throws UnsupportedOperationException",
            "reasons() = \"2 99 0\"; bring(0) = throws UnsupportedOperationException; reasons() = \"1 0 0\"",
            "bring(99) = throws UnsupportedOperationException; reasons() = \"2 99 0\"",
            "bring(100) = throws UnsupportedOperationException; reasons() = \"1 0 0\"",
            "bring(-1) = throws UnsupportedOperationException; bring(2147483647) = throws UnsupportedOperationException",
            "reasons() = \"1 0 0\"; account(2) = 99; account(10) = 2");
        Script.check("7, bring as much as there can be",
            "bring(80) = throws UnsupportedOperationException; reasons() = \"2 99 0\"; bring(79) = 99");
        Script.check("7, bring 99 to an empty pot", STUCK_TWO, "bring(99) = 99");
    }

    private static void take() {
        Script.check("8, take", STUCK_TWO,
            "holder(1) = 0; take(0) = 1; holder(1) = -1; account(9) = 1; account(6) = 1; account(7) = 2",
            "seat(0) = \"0 1 1 2 0 10 2 2 2 1\"; take(0) = throws UnsupportedOperationException; reasons() = \"6 2 0\"",
            "ring() = 0; stuck() = 0; stuckAgain() = 0; pass(1) = 0; ring() = 3; seat(0) = \"0 1 1 3 0 10 3 3 3 1\"",
            "take(1) = 0; account(9) = 2; bring(1) = 1; pass(1) = 0; eaters() = 1; pass(1) = 1");
        Script.check("8, take from one that takes the right ladle first",
            "join(1, 1, 1) = 0; join(1, 1, 1) = 1; pass(21) = 20; written() = \"0r1 1r.\"; take(0) = 0; take(0) = "
                + "throws UnsupportedOperationException");
        Script.check("8, take refused",
            "take(0) = throws UnsupportedOperationException; reasons() = \"3 0 0\"; take(-1) = throws UnsupportedOperationException",
            "reasons() = \"3 -1 0\"; join(0, 1, 1) = 0; join(0, 2, 1) = 1; take(0) = throws UnsupportedOperationException",
            "reasons() = \"6 0 0\"; waiter(1) = 0; pass(1) = 0; take(0) = throws UnsupportedOperationException",
            "reasons() = \"6 4 0\"; take(2) = throws UnsupportedOperationException; reasons() = \"3 2 0\"; clocks(0, 1, 1) = 11");
        Script.check("8, take from one that asks",
            "join(0, 1, 3) = 0; join(0, 1, 3) = 1; waiter(1) = 0; pass(1) = 0; take(1) = throws UnsupportedOperationException",
            "reasons() = \"6 1 0\"; account(9) = 0; account(10) = 4");
    }

    private static void pass() {
        Script.check("9, pass",
            "join(0, 2, 3) = 0; join(1, 3, 1) = 1; pass(1) = 0; seatOf(0, 4) = 1; seatOf(1, 4) = 2; account(0) = 1",
            "pass(1) = 0; seat(0) = \"0 2 3 4 3 0 0 0 0 1\"; seat(1) = \"1 3 1 0 1 0 0 0 0 0\"; account(2) = 19",
            "holder(0) = 0; holder(1) = 0; pass(1) = 0; seat(1) = \"1 3 1 2 0 0 1 1 1 1\"; waitsFor(1) = 0",
            "pass(2) = 1; seat(0) = \"0 2 3 0 2 1 0 0 0 0\"; seat(1) = \"1 3 1 4 1 0 2 0 2 1\"; account(2) = 18",
            "holder(0) = 1; holder(1) = 1; account(0) = 5; pass(1) = 1; account(6) = 0; account(4) = 2; account(5) = 2");
        Script.check("9, without a bowl the other ladle is not taken",
            "join(0, 1, 1) = 0; join(0, 1, 1) = 1; pass(21) = 20; written() = \"0l1 1l.\"; holder(1) = 0; holder(0) = -1",
            "account(2) = 0; waitsFor(0) = throws NoSuchElementException; bring(1) = 1; pass(1) = 0; eaters() = 1",
            "account(2) = 0; written() = \"0l2 1l_\"");
        Script.check("9, the last bowl is for the lower seat",
            "join(0, 1, 9) = 0; join(0, 1, 1) = 1; join(0, 9, 9) = 2; join(0, 1, 1) = 3; pass(1) = 0",
            "written() = \"0l2 1l_ 2l. 3l1\"; account(2) = 19");
        Script.check("9, what is put down is free in the same tick",
            "join(0, 1, 1) = 0; join(0, 1, 1) = 1; pass(1) = 0; eaters() = 1; pass(1) = 1; eaters() = 2; pass(1) = 1",
            "eaters() = 1; account(2) = 17");
    }

    private static void passRefused() {
        Script.check("9, pass refused",
            "pass(0) = throws UnsupportedOperationException; reasons() = \"1 0 0\"; pass(100) = throws UnsupportedOperationException",
            "reasons() = \"1 0 0\"; pass(99) = throws UnsupportedOperationException; reasons() = \"5 0 0\"; join(0, 1, 1) = 0",
            "pass(1) = throws UnsupportedOperationException; reasons() = \"5 1 0\"; pass(-3) = throws UnsupportedOperationException",
            "reasons() = \"1 0 0\"; account(0) = 0; join(0, 1, 1) = 1; pass(99) = 20; account(0) = 99; account(10) = 3");
    }
}
