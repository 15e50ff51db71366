/** Promises 31 to 36: means, accounts, undo, and the snapshot. */
public final class AccountsTest {
    private static final String TWO = "join(0, 1, 1) = 0; join(0, 1, 1) = 1";

    public static void main(String[] args) {
        meanWait();
        fairness();
        account();
        undoEachChange();
        undo();
        saveAndRestore();
        Script.end();
    }

    private static void meanWait() {
        Script.check("31, meanWait",
            "meanWait() = throws ArithmeticException; join(0, 1, 1) = 0; join(0, 1, 1) = 1; pass(1) = 0",
            "meanWait() = throws ArithmeticException; pass(1) = 1; meanWait() = 1.0; pass(1) = 1; meanWait() = 0.5; pass(1) = 1",
            "meanWait() = 0.3333333333333333; pass(18) = 17; meanWait() = 0.2; take(0) = 1; take(1) = 0; leave() = 1",
            "meanWait() = 0.2; leave() = 0; meanWait() = throws ArithmeticException");
        Script.check("31, no ticks were waited", "join(0, 1, 1) = 0; join(0, 9, 1) = 1; pass(2) = 1; meanWait() = 0.0");
        Script.check("31, the ticks of all seats",
            "join(0, 1, 3) = 0; join(0, 1, 3) = 1; join(0, 1, 3) = 2; join(0, 1, 3) = 3; waiter(1) = 0; pass(5) = 1",
            "waiter(3) = 1; pass(1) = 0; meanWait() = 16.0");
    }

    private static void fairness() {
        Script.check("32, fairness",
            "fairness() = throws ArithmeticException; join(0, 1, 1) = 0; join(0, 1, 1) = 1; pass(1) = 0",
            "fairness() = throws ArithmeticException; pass(1) = 1; fairness() = 0.0; pass(1) = 1; fairness() = 1.0; pass(1) = 1",
            "fairness() = 0.5; pass(2) = 2; fairness() = 0.6666667; pass(99) = 15; fairness() = 1.0");
        Script.check("32, no seat that is there has had a meal",
            "join(0, 9, 1) = 0; join(0, 1, 1) = 1; pass(2) = 1; fairness() = 0.0; leave() = 1",
            "fairness() = throws ArithmeticException");
    }

    private static void account() {
        Script.check("33, account", TWO,
            "pass(22) = 20; accounts() = \"22 2 0 0 20 20 2 2 0 0 3 0\"; take(0) = 1; accounts() = \"22 2 0 0 20 20 1 2 0 1 4 0\"",
            "bring(5) = 5; waiter(1) = 0; type(\"w\") = 1; accounts() = \"22 2 5 1 20 20 1 2 0 1 6 1\"; take(1) = 0",
            "accounts() = \"22 2 5 1 20 20 0 2 0 2 7 1\"; leave() = 1; accounts() = \"22 1 5 1 10 20 0 1 0 2 8 1\"");
        Script.check("33, those that ask", TWO,
            "waiter(1) = 0; pass(1) = 0; accounts() = \"1 2 19 1 0 1 2 1 1 0 4 0\"");
        Script.check("33, account with wrong numbers",
            "account(-1) = throws IllegalArgumentException; account(12) = throws IllegalArgumentException",
            "account(2147483647) = throws IllegalArgumentException; account(-2147483648) = throws IllegalArgumentException");
    }

    private static void undoEachChange() {
        Script.check("34, undo of each change", TWO,
            "undo() = 1; account(1) = 1; join(0, 1, 1) = 1; leave() = 1; undo() = 2; account(1) = 2; manner(1, 1) = 0; undo() = 2",
            "seatOf(1, 0) = 0; clocks(1, 5, 6) = 11; undo() = 2; seatOf(1, 1) = 1; seatOf(1, 2) = 1; waiter(1) = 0; undo() = 2",
            "account(3) = 0; bring(7) = 27; undo() = 2; account(2) = 20; pass(5) = 4; undo() = 2",
            "accounts() = \"0 2 20 0 0 0 0 0 0 0 2 0\"; seat(0) = \"0 1 1 0 1 0 0 0 0 0\"; seat(1) = \"0 1 1 0 1 0 0 0 0 0\"",
            "pass(22) = 20; take(0) = 1; undo() = 3; account(9) = 0; holder(1) = 0; ring() = 3; seatOf(0, 3) = 3",
            "say(\"d0;d1;-;-\") = 4; undo() = 3; accounts() = \"22 2 0 0 20 20 2 2 0 0 3 0\"; holder(0) = 1; ring() = 3");
        Script.check("34, undo of one of several changes of a kind",
            "waiter(1) = 0; waiter(3) = 1; waiter(2) = 3; undo() = 2; account(3) = 3; undo() = 1; account(3) = 1; undo() = 0",
            "account(3) = 0");
        Script.check("34, undo gives the queue and the waits back",
            "join(0, 2, 9) = 0; join(0, 1, 9) = 1; join(0, 2, 9) = 2; join(0, 1, 9) = 3; waiter(1) = 0; pass(2) = 0",
            "asking(0) = 3; asking(1) = 0; asking(2) = 2; pass(50) = 5; undo() = 6; asking(0) = 3; asking(1) = 0; asking(2) = 2",
            "seat(3) = \"0 1 9 1 0 0 2 2 2 0\"; leave() = throws UnsupportedOperationException; undo() = 5; account(8) = 0");
    }

    private static void undo() {
        Script.check("34, undo of the latest 8",
            "undo() = throws IllegalStateException; bring(1) = 21; bring(1) = 22; bring(1) = 23; bring(1) = 24; bring(1) = 25",
            "bring(1) = 26; bring(1) = 27; account(10) = 7; bring(1) = 28; account(10) = 8; bring(1) = 29; account(10) = 8",
            "bring(1) = 30; undo() = 7; account(2) = 29; undo() = 6; undo() = 5; undo() = 4; undo() = 3; undo() = 2; undo() = 1",
            "account(2) = 23; undo() = 0; account(2) = 22; undo() = throws IllegalStateException; account(2) = 22");
        Script.check("34, undo of the latest 8 of many",
            "bring(1) = 21; bring(1) = 22; bring(1) = 23; bring(1) = 24; bring(1) = 25; bring(1) = 26; bring(1) = 27",
            "bring(1) = 28; bring(1) = 29; bring(1) = 30; bring(1) = 31; bring(1) = 32; bring(1) = 33; bring(1) = 34",
            "undo() = 7; account(2) = 33; undo() = 6; account(2) = 32; undo() = 5; account(2) = 31; undo() = 4; account(2) = 30",
            "bring(9) = 39; bring(9) = 48; undo() = 5; account(2) = 39; undo() = 4; account(2) = 30; undo() = 3; account(2) = 29",
            "undo() = 2; account(2) = 28; undo() = 1; account(2) = 27; undo() = 0; account(2) = 26; account(10) = 0");
        Script.check("34, undo and new changes",
            "bring(1) = 21; bring(2) = 23; undo() = 1; bring(3) = 24; undo() = 1; account(2) = 21; waiter(2) = 0; bring(4) = 25",
            "undo() = 2; undo() = 1; account(3) = 0; account(2) = 21; undo() = 0; account(2) = 20");
        Script.check("34, what is no change cannot be undone", TWO,
            "mealsIn(9) = 8; stuckIn() = 22; line() = 7; save() = 2; append('x') = 1; isSure() = false; hungriest(0) = 0",
            "commands() = throws IllegalArgumentException; bring(0) = throws UnsupportedOperationException; account(10) = 2",
            "say(\"w1;w1\") = throws UnsupportedOperationException; account(10) = 2; undo() = 1; account(1) = 1");
    }

    private static void saveAndRestore() {
        Script.check("35 and 36, save and restore", TWO,
            "restore() = throws IllegalStateException; account(10) = 2; pass(3) = 2; save() = 2; account(10) = 3; pass(19) = 18",
            "take(0) = 1; take(1) = 0; leave() = 1; waiter(4) = 0; bring(3) = 3; manner(0, 1) = 2; clocks(0, 7, 8) = 11; restore() = 2",
            "accounts() = \"3 2 17 0 2 3 2 1 0 0 0 0\"; undo() = throws IllegalStateException",
            "seat(0) = \"0 1 1 4 1 1 0 0 0 1\"; seat(1) = \"0 1 1 0 1 1 1 0 1 0\"; holder(0) = 0; holder(1) = 0; pass(1) = 1; restore() = 2",
            "account(0) = 3; account(10) = 0; restore() = 2");
        Script.check("35, save in place of an earlier snapshot",
            "save() = 0; join(0, 1, 1) = 0; restore() = 0; account(1) = 0; join(1, 1, 1) = 0; save() = 1; join(1, 1, 1) = 1",
            "undo() = 1; undo() = 0; restore() = 1; seatOf(0, 0) = 1");
        Script.check("36, the snapshot is kept whatever comes",
            "join(0, 5, 5) = 0; save() = 1; clocks(0, 1, 1) = 55; undo() = 1; undo() = 0; account(1) = 0; restore() = 1; seatOf(0, 1) = 5",
            "clocks(0, 1, 1) = 55; account(10) = 1; undo() = 0; seatOf(0, 1) = 5; leave() = 0; restore() = 1; restore() = 1",
            "join(0, 1, 1) = 1; save() = 2; account(10) = 1; undo() = 0; account(1) = 1; restore() = 2");
    }
}
