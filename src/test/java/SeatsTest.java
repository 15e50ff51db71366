/** Promises 10 to 18: seats, ladles, who waits for whom, and seats that are stuck. */
public final class SeatsTest {
    private static final String LEFT_HANDED_THREE = "join(0, 1, 9) = 0; join(0, 1, 9) = 1; join(0, 1, 9) = 2; pass(1) = 0";
    private static final String LEFT_HANDED_FOUR =
        "join(0, 1, 9) = 0; join(0, 1, 9) = 1; join(0, 1, 9) = 2; join(0, 1, 9) = 3; pass(1) = 0";
    /** One begins to eat in each tick; with the last bowl gone, each holds its left ladle in the tick 22. */
    private static final String STUCK_TWO = "join(0, 1, 1) = 0; join(0, 1, 1) = 1; pass(22) = 20";

    public static void main(String[] args) {
        seatOf();
        ladle();
        holder();
        waitsFor();
        asking();
        eaters();
        rings();
        askersAndStuckSeats();
        Script.end();
    }

    private static void seatOf() {
        Script.check("10, seatOf", STUCK_TWO,
            "seat(0) = \"0 1 1 3 0 10 2 2 2 1\"; seat(1) = \"0 1 1 3 0 10 2 1 1 1\"; pass(5) = 0",
            "seat(0) = \"0 1 1 3 0 10 7 7 7 1\"; seat(1) = \"0 1 1 3 0 10 7 6 6 1\"");
        Script.check("10, the longest wait stays", STUCK_TWO,
            "take(1) = 0; bring(9) = 9; pass(1) = 0; seat(0) = \"0 1 1 4 1 10 2 0 2 1\"; seat(1) = \"0 1 1 2 0 10 3 2 2 1\"",
            "pass(1) = 1; seat(0) = \"0 1 1 0 1 11 2 0 2 0\"; seat(1) = \"0 1 1 4 1 10 3 0 2 1\"");
        Script.check("10, seatOf with wrong numbers",
            "seatOf(0, 10) = throws IndexOutOfBoundsException; join(0, 1, 1) = 0; seatOf(0, 10) = throws IllegalArgumentException",
            "seatOf(0, -1) = throws IllegalArgumentException; seatOf(1, 0) = throws IndexOutOfBoundsException",
            "seatOf(-1, 0) = throws IndexOutOfBoundsException; seatOf(-1, -1) = throws IndexOutOfBoundsException",
            "seatOf(2147483647, 0) = throws IndexOutOfBoundsException; seatOf(0, 2147483647) = throws IllegalArgumentException");
    }

    private static void ladle() {
        Script.check("11, ladle",
            "join(0, 1, 1) = 0; ladle(0, true) = 0; ladle(0, false) = 0; join(1, 1, 1) = 1; join(0, 1, 1) = 2",
            "ladle(0, true) = 2; ladle(0, false) = 0; ladle(1, true) = 1; ladle(1, false) = 0; ladle(2, true) = 1",
            "ladle(2, false) = 2; manner(0, 1) = 0; ladle(0, true) = 0; ladle(0, false) = 2",
            "ladle(3, true) = throws IndexOutOfBoundsException; ladle(-1, false) = throws IndexOutOfBoundsException");
    }

    private static void holder() {
        Script.check("12, holder",
            "join(0, 1, 9) = 0; join(0, 1, 9) = 1; join(0, 1, 9) = 2; holder(0) = -1; holder(1) = -1; holder(2) = -1",
            "pass(1) = 0; holder(0) = 0; holder(1) = 2; holder(2) = 0; holder(3) = throws IndexOutOfBoundsException",
            "holder(-1) = throws IndexOutOfBoundsException; holder(2147483647) = throws IndexOutOfBoundsException");
        Script.check("12, the holders at a table of four", LEFT_HANDED_FOUR,
            "holder(0) = 0; holder(1) = 2; holder(2) = 2; holder(3) = 0");
    }

    private static void waitsFor() {
        Script.check("13, waitsFor", LEFT_HANDED_THREE,
            "waitsFor(0) = throws NoSuchElementException; waitsFor(1) = 0; waitsFor(2) = 0",
            "waitsFor(3) = throws IndexOutOfBoundsException; waitsFor(-1) = throws IndexOutOfBoundsException");
        Script.check("13, seats that think or ask wait for none",
            "join(0, 1, 9) = 0; join(0, 1, 9) = 1; waitsFor(0) = throws NoSuchElementException; waiter(1) = 0; pass(1) = 0",
            "waitsFor(1) = throws NoSuchElementException");
        Script.check("13, one that waits for a free ladle waits for none", STUCK_TWO,
            "waitsFor(0) = 1; waitsFor(1) = 0; take(0) = 1; waitsFor(0) = throws NoSuchElementException",
            "waitsFor(1) = throws NoSuchElementException");
    }

    private static void asking() {
        Script.check("14, asking",
            "join(0, 3, 9) = 0; join(0, 1, 9) = 1; join(0, 2, 9) = 2; join(0, 2, 9) = 3; waiter(1) = 0",
            "asking(0) = throws NoSuchElementException; pass(1) = 0; asking(0) = throws NoSuchElementException; pass(1) = 0",
            "asking(0) = 2; asking(1) = 3; asking(2) = throws NoSuchElementException; pass(1) = 0; asking(0) = 2",
            "asking(1) = 3; asking(2) = 0; asking(3) = throws NoSuchElementException; asking(-1) = throws NoSuchElementException",
            "account(8) = 3; pass(7) = 1; asking(0) = 3; asking(1) = 0; asking(2) = throws NoSuchElementException");
        Script.check("14, none asks if all may have leave", LEFT_HANDED_THREE, "asking(0) = throws NoSuchElementException");
    }

    private static void eaters() {
        Script.check("15, eaters", LEFT_HANDED_FOUR, "eaters() = 5; written() = \"0l2 1l_ 2l2 3l_\"; pass(9) = 2; eaters() = 10");
        Script.check("15, the last seat eats",
            "join(0, 9, 9) = 0; join(0, 9, 9) = 1; join(0, 9, 9) = 2; join(0, 9, 9) = 3; join(0, 9, 9) = 4; join(0, 9, 9) = 5",
            "join(0, 9, 9) = 6; join(0, 1, 9) = 7; eaters() = 0; pass(1) = 0; eaters() = 128");
    }

    private static void rings() {
        Script.check("16 to 18, a ring of two",
            "join(0, 1, 1) = 0; join(0, 1, 1) = 1; pass(21) = 20; ring() = 0; stuck() = 0; stuckAgain() = 0; pass(1) = 0",
            "ring() = 3; stuck() = 3; stuckAgain() = 3; bring(9) = 9; pass(9) = 0; ring() = 3; stuck() = 3",
            "stuckAgain() = 3; take(1) = 0; ring() = 0; stuck() = 0; stuckAgain() = 0; pass(1) = 0; eaters() = 1");
        // With an empty pot each of three takes its first ladle as it comes to wait, and keeps it.
        Script.check("16 to 18, a ring of three",
            "join(1, 1, 1) = 0; join(1, 1, 1) = 1; pass(20) = 19; account(2) = 0; pass(1) = 1; take(0) = 0",
            "join(1, 1, 1) = 2; pass(1) = 0; written() = \"0r1! 1r1! 2r1!\"; ring() = 7; stuck() = 7; stuckAgain() = 7",
            "waitsFor(0) = 2; waitsFor(1) = 0; waitsFor(2) = 1; take(1) = 1; ring() = 0; stuck() = 0; stuckAgain() = 0");
        Script.check("16 to 18, no ring by waiting for soup",
            "join(0, 1, 1) = 0; join(1, 1, 1) = 1; pass(99) = 20; ring() = 0; stuck() = 0; stuckAgain() = 0",
            "account(2) = 0; account(6) = 1");
    }

    private static void askersAndStuckSeats() {
        Script.check("17 and 18, the only one with leave eats",
            "join(0, 1, 9) = 0; join(0, 1, 9) = 1; join(0, 1, 9) = 2; waiter(1) = 0; pass(1) = 0; written() = \"0l2 1l? 2l?\"",
            "ring() = 0; stuck() = 0; stuckAgain() = 0; pass(9) = 1; written() = \"0l. 1l2 2l?\"; stuck() = 0; stuckAgain() = 0");
        Script.check("17 and 18, those that ask are not stuck while one with leave can go on",
            "join(0, 1, 9) = 0; join(0, 1, 9) = 1; join(0, 1, 9) = 2; waiter(2) = 0; pass(1) = 0; written() = \"0l2 1l_ 2l?\"",
            "stuck() = 0; stuckAgain() = 0; waiter(1) = 2; stuck() = 0; stuckAgain() = 0; waiter(8) = 1; stuck() = 0",
            "stuckAgain() = 0");
    }
}
