/** The document's five examples. */
public final class ExamplesTest {
    public static void main(String[] args) {
        Script.check("example 1, two wait for one another",
            "join(0, 1, 2) = 0; join(0, 1, 2) = 1; pass(1) = 0; line() = 7; waitsFor(0) = throws NoSuchElementException",
            "ring() = 0; stuck() = 0; stuckAgain() = 0; take(1) = throws UnsupportedOperationException; pass(1) = 0",
            "eaters() = 1");
        Script.check("example 2, one is sure",
            "join(0, 1, 2) = 0; join(1, 1, 2) = 1; isSure() = true; pass(1) = 0; eaters() = 1; holder(1) = 0",
            "pass(2) = 1; account(4) = 1");
        Script.check("example 3, a waiter",
            "join(0, 1, 1) = 0; join(0, 1, 1) = 1; waiter(1) = 0; pass(1) = 0; account(8) = 1; asking(0) = 1",
            "eaters() = 1; stuckIn() = throws NoSuchElementException");
        Script.check("example 4, nothing to pass",
            "pass(1) = throws UnsupportedOperationException; reason(0) = 5; reason(1) = 0",
            "join(0, 0, 1) = throws UnsupportedOperationException; reason(0) = 1");
        Script.check("example 5, a text with a fault",
            "append('t') = 1; append('x') = 2; commands() = throws IllegalArgumentException; faultPosition() = 1",
            "take(0) = throws UnsupportedOperationException; reason(0) = 3");
        Script.end();
    }
}
