/** Promises 19 to 24: what ticks would bring, and the order of the hungry. */
public final class OutlookTest {
    private static final String TWO = "join(0, 1, 1) = 0; join(0, 1, 1) = 1";

    public static void main(String[] args) {
        isSure();
        mealsIn();
        stuckIn();
        hungriest();
        rounds();
        areNeighbours();
        Script.end();
    }

    private static void isSure() {
        Script.check("19, isSure",
            "isSure() = false; waiter(1) = 0; isSure() = false; join(0, 1, 1) = 0; isSure() = false; join(0, 1, 1) = 1",
            "isSure() = true; waiter(2) = 1; isSure() = false; waiter(0) = 2; isSure() = false; manner(0, 1) = 0",
            "isSure() = true; manner(1, 1) = 0; isSure() = false; join(1, 1, 1) = 2; isSure() = false; waiter(3) = 0",
            "isSure() = false; waiter(2) = 3; isSure() = true; waiter(8) = 2; isSure() = false; join(0, 1, 1) = 3",
            "isSure() = true; leave() = 3; isSure() = false");
    }

    private static void mealsIn() {
        Script.check("20, mealsIn", TWO,
            "mealsIn(0) = 0; mealsIn(1) = 0; mealsIn(2) = 1; mealsIn(20) = 19; mealsIn(21) = 20; mealsIn(99) = 20",
            "mealsIn(-1) = throws IllegalArgumentException; mealsIn(100) = throws IllegalArgumentException",
            "accounts() = \"0 2 20 0 0 0 0 0 0 0 2 0\"; written() = \"0l. 1l.\"; pass(10) = 9; mealsIn(1) = 1; mealsIn(11) = 11",
            "mealsIn(12) = 11; account(0) = 10");
        Script.check("20, mealsIn with fewer than two seats",
            "mealsIn(99) = 0; mealsIn(100) = throws IllegalArgumentException; join(0, 1, 1) = 0; mealsIn(99) = 0",
            "mealsIn(-2147483648) = throws IllegalArgumentException; mealsIn(2147483647) = throws IllegalArgumentException");
    }

    private static void stuckIn() {
        Script.check("21, stuckIn", TWO,
            "stuckIn() = 22; account(0) = 0; pass(21) = 20; stuckIn() = 1; pass(1) = 0; stuckIn() = 0; pass(1) = 0",
            "stuckIn() = 0; account(0) = 23; take(0) = 1; stuckIn() = 1; leave() = throws UnsupportedOperationException");
        Script.check("21, in just 99 ticks", TWO, "bring(77) = 97; stuckIn() = 99");
        Script.check("21, not in 99 ticks", TWO, "bring(78) = 98; stuckIn() = throws NoSuchElementException; pass(1) = 0; stuckIn() = 99");
        Script.check("21, stuckIn with fewer than two seats",
            "stuckIn() = throws NoSuchElementException; join(0, 1, 1) = 0; stuckIn() = throws NoSuchElementException");
        Script.check("21, sure seats are never stuck",
            "join(0, 1, 1) = 0; join(1, 1, 1) = 1; stuckIn() = throws NoSuchElementException");
    }

    private static void hungriest() {
        Script.check("22, hungriest",
            "hungriest(0) = throws NoSuchElementException; join(0, 1, 3) = 0; join(0, 1, 3) = 1; join(0, 1, 3) = 2",
            "join(0, 1, 3) = 3; hungriest(0) = 0; hungriest(1) = 1; hungriest(3) = 3; hungriest(4) = throws NoSuchElementException",
            "hungriest(-1) = throws NoSuchElementException; waiter(1) = 0; pass(5) = 1; waiter(3) = 1; pass(1) = 0",
            "hungriest(0) = 2; hungriest(1) = 3; hungriest(2) = 1; hungriest(3) = 0; hungriest(4) = throws NoSuchElementException");
        Script.check("22, the fewest meals go before the longest wait", TWO,
            "pass(2) = 1; seatOf(1, 6) = 1; hungriest(0) = 1; hungriest(1) = 0; pass(1) = 1; hungriest(0) = 1; pass(1) = 1",
            "hungriest(0) = 1; hungriest(1) = 0");
        Script.check("22, fewer meals with a shorter wait",
            "join(0, 9, 1) = 0; join(0, 1, 1) = 1; join(0, 1, 1) = 2; pass(3) = 2; seatOf(2, 6) = 1; seatOf(0, 6) = 0",
            "hungriest(0) = 0; hungriest(1) = 2; hungriest(2) = 1");
    }

    private static void rounds() {
        Script.check("23, rounds", TWO,
            "rounds() = 0; pass(2) = 1; rounds() = 0; pass(1) = 1; rounds() = 1; pass(18) = 18; rounds() = 10; pass(9) = 0",
            "rounds() = 10; take(0) = 1; take(1) = 0; join(0, 9, 9) = 2; rounds() = 0; leave() = 2; rounds() = 10; leave() = 1",
            "rounds() = 10; leave() = 0; rounds() = 0");
    }

    private static void areNeighbours() {
        Script.check("24, areNeighbours",
            "areNeighbours(0, 0) = throws IndexOutOfBoundsException; join(0, 1, 1) = 0; areNeighbours(0, 0) = false",
            "join(0, 1, 1) = 1; areNeighbours(0, 1) = true; areNeighbours(1, 0) = true; areNeighbours(1, 1) = false",
            "join(1, 1, 1) = 2; areNeighbours(0, 2) = true; areNeighbours(1, 2) = true; join(0, 1, 1) = 3",
            "areNeighbours(0, 2) = false; areNeighbours(2, 0) = false; areNeighbours(0, 3) = true; areNeighbours(3, 0) = true",
            "areNeighbours(2, 3) = true; areNeighbours(1, 3) = false; areNeighbours(0, 4) = throws IndexOutOfBoundsException",
            "areNeighbours(4, 0) = throws IndexOutOfBoundsException; areNeighbours(-1, 0) = throws IndexOutOfBoundsException",
            "areNeighbours(0, -1) = throws IndexOutOfBoundsException; areNeighbours(4, 4) = throws IndexOutOfBoundsException",
            "join(0, 1, 1) = 4; join(0, 1, 1) = 5; join(0, 1, 1) = 6; join(0, 1, 1) = 7; areNeighbours(7, 0) = true",
            "areNeighbours(0, 7) = true; areNeighbours(3, 0) = false; areNeighbours(6, 0) = false; areNeighbours(6, 7) = true");
    }
}
