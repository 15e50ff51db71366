/**
 * One test for each sentence that names a boundary, in the order of the document; the titles are these sentences. The
 * sentences of 'Exceptions' are in UnchangedTest; what is between the boundaries is in the tests of the promises.
 */
public final class EdgesTest {
    private static final int LEFT = 0;
    private static final int RIGHT = 1;
    private static final String TWO = "join(0, 1, 1) = 0; join(0, 1, 1) = 1";
    /** The seat 0 holds the ladle 1, the other one thinks, and the pot is empty. */
    private static final String TWO_WITHOUT_SOUP = TWO + "; pass(21) = 20";
    private static final String TWO_STUCK = TWO + "; pass(22) = 20";
    /** The seat 0 eats, the seat 1 waits for its first ladle, and the seat 2 holds that. */
    private static final String THREE_AT_TABLE = "join(0, 1, 9) = 0; join(0, 1, 9) = 1; join(0, 1, 9) = 2; pass(1) = 0";

    public static void main(String[] args) {
        table();
        seatsAndPot();
        askers();
        ladlesInTicks();
        stuckSeats();
        chainsAndRings();
        joinAndLeave();
        leaveOfWhoWaits();
        mannerAndClocks();
        waiter();
        bring();
        take();
        pass();
        seatOf();
        ladles();
        waitsForAndAsking();
        isSure();
        mealsIn();
        stuckIn();
        hungriestAndRounds();
        areNeighbours();
        append();
        commands();
        commandsOfTheLastSeat();
        faultPosition();
        reason();
        line();
        meanWait();
        fairness();
        account();
        undo();
        snapshot();
        allCalls();
        Script.end();
    }

    private static String eight(int manner, int think, int eat) {
        StringBuilder joins = new StringBuilder();
        for (int k = 0; k < 8; k++) {
            joins.append("join(" + manner + ", " + think + ", " + eat + ") = " + k + ";");
        }
        return joins.toString();
    }

    private static String bringing(int times, int bowlsBefore) {
        StringBuilder calls = new StringBuilder();
        for (int k = 1; k <= times; k++) {
            calls.append("bring(1) = " + (bowlsBefore + k) + ";");
        }
        return calls.toString();
    }

    private static void table() {
        Script.check("there are at most 8 seats, numbered from 0", eight(LEFT, 1, 9), "account(1) = 8; seatOf(0, 1) = 1",
            "seatOf(7, 1) = 1; join(0, 1, 9) = refused 2 8 0; account(1) = 8");
        Script.check("the next seat of the last one is the seat 0", eight(LEFT, 1, 9), "ladle(0, true) = 7",
            "ladle(0, false) = 0; ladle(1, true) = 0; ladle(7, true) = 6; ladle(7, false) = 7");
        Script.check("the next seat of the last one is the seat 0, for those that take the right ladle first",
            eight(RIGHT, 1, 9), "ladle(0, true) = 0; ladle(0, false) = 7; ladle(7, true) = 7; ladle(7, false) = 6");
        Script.check("one seat has one ladle", "join(0, 1, 1) = 0; ladle(0, true) = 0; ladle(0, false) = 0",
            "manner(0, 1) = 0; ladle(0, true) = 0; ladle(0, false) = 0; holder(0) = -1",
            "holder(1) = throws IndexOutOfBoundsException");
        Script.check("two seats have both ladles in common", TWO, "ladle(0, true) = 1; ladle(0, false) = 0",
            "ladle(1, true) = 0; ladle(1, false) = 1");
        Script.check("the left ladle of the seat 0 is another one when a seat has joined or left", TWO,
            "join(0, 1, 1) = 2; ladle(0, true) = 2; join(0, 1, 1) = 3; ladle(0, true) = 3; leave() = 3; leave() = 2",
            "ladle(0, true) = 1");
        Script.check("a ladle is free, or is held by one seat", THREE_AT_TABLE, "holder(0) = 0; holder(2) = 0",
            "holder(1) = 2; take(2) = 1; holder(1) = -1; holder(0) = 0; holder(2) = 0");
    }

    private static void seatsAndPot() {
        Script.check("the ticks are from 1 to 9", "join(0, 1, 9) = 0; join(0, 9, 1) = 1; pass(1) = 0; seatOf(0, 3) = 4",
            "seatOf(0, 4) = 9; seatOf(1, 4) = 8; pass(8) = 0; seatOf(0, 4) = 1; seatOf(1, 3) = 2; pass(1) = 1",
            "seatOf(0, 3) = 0; seatOf(1, 4) = 1; pass(1) = 1; seatOf(1, 3) = 0; seatOf(1, 4) = 9");
        Script.check("the waiter lets all have leave at first", eight(LEFT, 1, 9), "pass(1) = 0; account(3) = 0",
            "account(7) = 8; account(8) = 0");
        Script.check("the waiter lets 8 have leave", eight(LEFT, 1, 9), "waiter(8) = 0; pass(1) = 0; account(7) = 8",
            "account(8) = 0");
        Script.check("the waiter lets 7 have leave", eight(LEFT, 1, 9), "waiter(7) = 0; pass(1) = 0; account(7) = 7",
            "account(8) = 1; asking(0) = 7; seatOf(6, 9) = 1; seatOf(7, 9) = 0");
        Script.check("the waiter lets 1 have leave", eight(LEFT, 1, 9), "waiter(1) = 0; pass(1) = 0; account(7) = 1",
            "account(8) = 7; asking(6) = 7");
        Script.check("the pot holds 20 bowls of soup at first", "account(2) = 20");
        Script.check("the pot holds at most 99 bowls", "bring(79) = 99; bring(1) = refused 2 99 0; account(2) = 99");
    }

    private static void askers() {
        Script.check("with no tick left to think a seat asks, behind the others that do", "join(0, 3, 9) = 0",
            "join(0, 2, 9) = 1; join(0, 1, 9) = 2; join(0, 2, 9) = 3; waiter(1) = 0; pass(2) = 0; asking(0) = 1",
            "asking(1) = 3; pass(1) = 0; asking(0) = 1; asking(1) = 3; asking(2) = 0");
        Script.check("leave that is given up in a tick is free in the later parts of it", "join(0, 1, 1) = 0",
            "join(0, 1, 9) = 1; waiter(1) = 0; pass(1) = 0; seatOf(0, 9) = 1; seatOf(1, 9) = 0; pass(1) = 1",
            "seatOf(0, 9) = 0; seatOf(1, 9) = 1; eaters() = 2");
        Script.check("each seat that asks or waits has waited for a tick more, and none else", THREE_AT_TABLE,
            "seatOf(0, 6) = 0; seatOf(1, 6) = 1; seatOf(2, 6) = 1; pass(1) = 0; seatOf(0, 6) = 0; seatOf(1, 6) = 2",
            "seatOf(2, 6) = 2");
        Script.check("one that asks waits too", TWO, "waiter(1) = 0; pass(1) = 0; seat(0) = \"0 1 1 4 1 0 0 0 0 1\"",
            "seat(1) = \"0 1 1 1 0 0 1 1 1 0\"");
    }

    private static void ladlesInTicks() {
        Script.check("a seat takes both ladles in one tick", "join(0, 1, 9) = 0; join(0, 9, 9) = 1; pass(1) = 0",
            "eaters() = 1; account(6) = 2");
        Script.check("without a bowl it holds just the first one", TWO_WITHOUT_SOUP, "seatOf(0, 3) = 3; holder(1) = 0",
            "holder(0) = -1; account(2) = 0");
        Script.check("the last bowl is gone", TWO, "pass(19) = 18; account(2) = 1; pass(1) = 1; account(2) = 0",
            "account(5) = 20; account(6) = 2");
        Script.check("a ladle that is put down in a tick is free in the later parts of it",
            "join(0, 1, 1) = 0; join(0, 1, 9) = 1; pass(1) = 0; eaters() = 1; waitsFor(1) = 0; pass(1) = 1; eaters() = 2",
            "holder(0) = 1; holder(1) = 1");
        Script.check("what begins in a tick has its first tick less in the next one", "join(0, 1, 2) = 0",
            "join(0, 9, 1) = 1; pass(1) = 0; seatOf(0, 4) = 2; pass(1) = 0; seatOf(0, 4) = 1; pass(1) = 1",
            "seatOf(0, 3) = 0; seatOf(0, 4) = 1; pass(1) = 0; seatOf(0, 3) = 4");
        Script.check("no two neighbours eat with one ladle, the last one and the seat 0 neither",
            "join(0, 1, 9) = 0; join(0, 9, 9) = 1; join(1, 1, 9) = 2; pass(1) = 0; eaters() = 1; waitsFor(2) = 0");
    }

    private static void stuckSeats() {
        Script.check("soup does not make a seat stuck", TWO_WITHOUT_SOUP, "stuck() = 0; stuckAgain() = 0; ring() = 0");
        Script.check("a seat that waits for a ladle that is free waits for none", TWO_WITHOUT_SOUP,
            "waitsFor(0) = throws NoSuchElementException");
        Script.check("a ring of waiting of two", TWO_STUCK, "waitsFor(0) = 1; waitsFor(1) = 0; ring() = 3; stuck() = 3",
            "stuckAgain() = 3");
        Script.check("one that asks is not stuck while one that has leave is not", TWO, "waiter(1) = 0; pass(1) = 0",
            "stuck() = 0; stuckAgain() = 0; ring() = 0");
        Script.check("nor while the one that has leave waits for soup", TWO, "waiter(1) = 0; pass(22) = 20",
            "written() = \"0l1 1l?\"; stuck() = 0; stuckAgain() = 0; ring() = 0; stuckIn() = throws NoSuchElementException");
        Script.check("without seats none is stuck", "ring() = 0; stuck() = 0; stuckAgain() = 0; eaters() = 0");
        Script.check("one seat is not stuck", "join(0, 1, 1) = 0; ring() = 0; stuck() = 0; stuckAgain() = 0; eaters() = 0");
    }

    private static void chainsAndRings() {
        Script.check("of a chain that ends at one that eats none is stuck", "join(0, 8, 9) = 0; join(0, 7, 9) = 1",
            "join(0, 6, 9) = 2; join(0, 5, 9) = 3; join(0, 4, 9) = 4; join(0, 3, 9) = 5; join(0, 2, 9) = 6",
            "join(0, 1, 9) = 7; pass(8) = 0; written() = \"0l_ 1l1 2l1 3l1 4l1 5l1 6l1 7l2\"; waitsFor(0) = 7",
            "waitsFor(1) = 2; waitsFor(6) = 7; account(6) = 8; ring() = 0; stuck() = 0; stuckAgain() = 0; eaters() = 128");
        Script.check("nor of a chain the other way around", eight(RIGHT, 1, 9), "pass(1) = 0",
            "written() = \"0r2 1r1 2r1 3r1 4r1 5r1 6r1 7r_\"; waitsFor(7) = 0; waitsFor(6) = 5; waitsFor(1) = 0",
            "ring() = 0; stuck() = 0; stuckAgain() = 0");
        Script.check("in a ring of eight the last one waits for the first one", TWO_WITHOUT_SOUP,
            "take(0) = 1; say(\"+l11;+l11;+l11;+l11;+l11;+l11;t1\") = 7; waitsFor(7) = 0; waitsFor(0) = 1; waitsFor(6) = 7",
            "ring() = 255; stuck() = 255; stuckAgain() = 255; take(7) = 6; ring() = 0; stuck() = 0; stuckAgain() = 0",
            "waitsFor(5) = 6; waitsFor(6) = throws NoSuchElementException; waitsFor(7) = throws NoSuchElementException",
            "waitsFor(0) = 1");
    }

    private static void joinAndLeave() {
        for (String numbers : new String[] {"-1, 1, 1", "2, 1, 1", "0, 0, 1", "0, 10, 1", "0, 1, 0", "0, 1, 10", "0, -1, 1", "1, 1, -1",
            "-2147483648, 1, 1", "2147483647, 1, 1", "0, -2147483648, 1", "0, 2147483647, 1", "0, 1, -2147483648", "0, 1, 2147483647"}) {
            Script.check("2: it is refused for the reason 1",
                "join(" + numbers + ") = refused 1 0 0; account(1) = 0; account(10) = 0");
        }
        Script.check("2: the reason 1 goes before the reason 2", eight(LEFT, 1, 9), "join(2, 1, 1) = refused 1 0 0",
            "join(0, 10, 1) = refused 1 0 0");
        Script.check("2: the reason 2 goes before the reason 4", eight(LEFT, 1, 9), "pass(1) = 0; account(6) = 8",
            "join(0, 1, 1) = refused 2 8 0");
        Script.check("2: it is refused for the reason 4", THREE_AT_TABLE, "join(1, 9, 9) = refused 4 3 0; take(2) = 1",
            "join(1, 9, 9) = refused 4 2 0; join(1, 9, 0) = refused 1 0 0");
        Script.check("2: one ladle that is held is enough", TWO_WITHOUT_SOUP, "join(0, 1, 1) = refused 4 1 0; take(0) = 1",
            "join(0, 1, 1) = 2");
        Script.check("3: it is refused for the reason 5, if there are none", "leave() = refused 5 0 0; join(0, 1, 1) = 0",
            "leave() = 0; leave() = refused 5 0 0");
        Script.check("3: it is refused for the reason 4", THREE_AT_TABLE, "leave() = refused 4 3 0; take(2) = 1",
            "leave() = refused 4 2 0");
        Script.check("3: one ladle that is held is enough", TWO_WITHOUT_SOUP, "leave() = refused 4 1 0; take(0) = 1",
            "leave() = 1");
        Script.check("3: returns how many seats there are then", eight(LEFT, 1, 9), "leave() = 7; leave() = 6; leave() = 5",
            "leave() = 4; leave() = 3; leave() = 2; leave() = 1; leave() = 0");
    }

    private static void leaveOfWhoWaits() {
        Script.check("3: what it has had goes with it", TWO_STUCK, "take(0) = 1; take(1) = 0; account(4) = 20; leave() = 1",
            "account(4) = 10; join(1, 2, 3) = 1; seat(1) = \"1 2 3 0 2 0 0 0 0 0\"; account(4) = 10; account(5) = 20",
            "rounds() = 0");
        Script.check("3: its leave goes with it", TWO_STUCK, "take(0) = 1; take(1) = 0; account(7) = 2; waiter(1) = 0",
            "leave() = 1; account(7) = 1; leave() = 0; account(7) = 0");
        Script.check("3: its place among those that ask goes with it", TWO, "waiter(1) = 0; pass(22) = 20; take(0) = 1",
            "asking(0) = 1; leave() = 1; asking(0) = throws NoSuchElementException; account(8) = 0");
    }

    private static void mannerAndClocks() {
        Script.check("4: it is refused for the reason 3", "manner(0, 1) = refused 3 0 0; join(0, 1, 1) = 0",
            "manner(1, 1) = refused 3 1 0; manner(-1, 1) = refused 3 -1 0; manner(2147483647, 1) = refused 3 2147483647 0",
            "manner(-2147483648, 1) = refused 3 -2147483648 0");
        Script.check("4: the reason 3 goes before the reason 1", "manner(0, 2) = refused 3 0 0",
            "manner(0, -1) = refused 3 0 0");
        Script.check("4: it is refused for the reason 1", "join(0, 1, 1) = 0; manner(0, 2) = refused 1 0 0",
            "manner(0, -1) = refused 1 0 0; manner(0, 2147483647) = refused 1 0 0; seatOf(0, 0) = 0");
        Script.check("4: it is refused for the reason 7", "join(0, 1, 1) = 0; manner(0, 0) = refused 7 0 0",
            "manner(0, 1) = 0; manner(0, 1) = refused 7 0 0");
        Script.check("4: a seat that holds its first ladle keeps it, and waits for the other one as before", TWO_STUCK,
            "manner(0, 1) = 3; holder(1) = 0; waitsFor(0) = 1; manner(0, 0) = 3; holder(1) = 0; waitsFor(0) = 1",
            "ring() = 3");
        Script.check("4: the ladle that a seat takes first is told by its manner then", TWO_STUCK,
            "manner(0, 1) = 3; ladle(0, true) = 0; take(0) = 1; waitsFor(0) = 1; take(1) = 0; pass(1) = 0; holder(0) = 0",
            "holder(1) = -1; waitsFor(1) = 0");
        Script.check("5: it is refused for the reason 3", "clocks(0, 1, 1) = refused 3 0 0; join(0, 1, 1) = 0",
            "clocks(1, 1, 1) = refused 3 1 0; clocks(-1, 1, 1) = refused 3 -1 0",
            "clocks(-2147483648, 1, 1) = refused 3 -2147483648 0");
        Script.check("5: the reason 3 goes before the reason 1", "clocks(0, 0, 0) = refused 3 0 0",
            "clocks(0, 10, 10) = refused 3 0 0");
        for (String numbers : new String[] {"0, 1", "10, 1", "1, 0", "1, 10", "-1, 1", "1, -1", "2147483647, 1", "1, -2147483648"}) {
            Script.check("5: it is refused for the reason 1",
                "join(0, 5, 5) = 0; clocks(0, " + numbers + ") = refused 1 0 0; clocks(0, 5, 5) = 55");
        }
        Script.check("5: the fewest and the most ticks", "join(0, 5, 5) = 0; clocks(0, 1, 1) = 55; clocks(0, 9, 9) = 11",
            "clocks(0, 1, 9) = 99; clocks(0, 9, 1) = 19; clocks(0, 9, 1) = 91");
        Script.check("5: from the next time on at which it begins to think or to eat", "join(0, 1, 3) = 0",
            "join(0, 9, 9) = 1; pass(1) = 0; clocks(0, 4, 5) = 13; seatOf(0, 4) = 3; pass(3) = 1; seatOf(0, 4) = 4",
            "clocks(0, 1, 9) = 45; pass(3) = 0; seatOf(0, 4) = 1; pass(1) = 0; seatOf(0, 4) = 9");
    }

    private static void waiter() {
        for (String number : new String[] {"-1", "9", "-2147483648", "2147483647"}) {
            Script.check("6: it is refused for the reason 1",
                "waiter(" + number + ") = refused 1 0 0; account(3) = 0; account(10) = 0");
        }
        Script.check("6: it is refused for the reason 7", "waiter(0) = refused 7 0 0; waiter(8) = 0",
            "waiter(8) = refused 7 0 0; waiter(1) = 8; waiter(0) = 1");
        Script.check("6: none loses leave by that", eight(LEFT, 1, 9), "pass(1) = 0; waiter(1) = 0; account(7) = 8",
            "pass(1) = 0; account(7) = 8; account(3) = 1");
        Script.check("6: leave is given when fewer have it than the number", eight(LEFT, 1, 2),
            "waiter(2) = 0; pass(1) = 0; eaters() = 1; account(7) = 2; waiter(1) = 2; pass(2) = 1; eaters() = 2",
            "account(7) = 1; asking(0) = 2; waiter(3) = 1; pass(1) = 0; account(7) = 3");
    }

    private static void bring() {
        for (String bowls : new String[] {"0", "-1", "100", "-2147483648", "2147483647"}) {
            Script.check("7: it is refused for the reason 1",
                "bring(" + bowls + ") = refused 1 0 0; account(2) = 20; account(10) = 0");
        }
        Script.check("7: it is refused for the reason 2", "bring(80) = refused 2 99 0; bring(99) = refused 2 99 0",
            "bring(79) = 99; bring(1) = refused 2 99 0");
        Script.check("7: the reason 1 goes before the reason 2", "bring(79) = 99; bring(100) = refused 1 0 0",
            "bring(0) = refused 1 0 0; bring(-5) = refused 1 0 0");
        Script.check("7: 1 bowl", "bring(1) = 21");
        Script.check("7: 99 bowls", TWO_WITHOUT_SOUP, "bring(99) = 99");
        Script.check("7: 99 bowls to a pot with one", TWO, "pass(19) = 18; account(2) = 1; bring(99) = refused 2 99 0",
            "bring(98) = 99");
    }

    private static void take() {
        Script.check("8: it is refused for the reason 3", "take(0) = refused 3 0 0; take(-1) = refused 3 -1 0", TWO,
            "take(2) = refused 3 2 0; take(2147483647) = refused 3 2147483647 0",
            "take(-2147483648) = refused 3 -2147483648 0");
        Script.check("8: it is refused for the reason 6: one that thinks", TWO, "take(0) = refused 6 0 0");
        Script.check("8: it is refused for the reason 6: one that asks", TWO, "waiter(1) = 0; pass(1) = 0",
            "take(1) = refused 6 1 0");
        Script.check("8: it is refused for the reason 6: one that waits for its first ladle", THREE_AT_TABLE,
            "take(1) = refused 6 2 0");
        Script.check("8: it is refused for the reason 6: one that eats", THREE_AT_TABLE, "take(0) = refused 6 4 0",
            "holder(0) = 0; holder(2) = 0");
        Script.check("8: the ladle is free then, and the seat waits for its first ladle", THREE_AT_TABLE,
            "take(2) = 1; holder(1) = -1; seatOf(2, 3) = 2; seatOf(2, 9) = 1; account(9) = 1; take(2) = refused 6 2 0",
            "account(9) = 1");
        Script.check("8: it waits on without a break", TWO_STUCK, "take(0) = 1; seatOf(0, 7) = 2; pass(1) = 0",
            "seatOf(0, 7) = 3");
    }

    private static void pass() {
        for (String ticks : new String[] {"0", "-1", "100", "-2147483648", "2147483647"}) {
            Script.check("9: it is refused for the reason 1", TWO,
                "pass(" + ticks + ") = refused 1 0 0; account(0) = 0; account(10) = 2");
            Script.check("9: the reason 1 goes before the reason 5", "pass(" + ticks + ") = refused 1 0 0");
        }
        Script.check("9: it is refused for the reason 5 without seats", "pass(1) = refused 5 0 0; pass(99) = refused 5 0 0",
            "account(0) = 0");
        Script.check("9: it is refused for the reason 5 with one seat", "join(0, 1, 1) = 0; pass(1) = refused 5 1 0",
            "pass(99) = refused 5 1 0; account(0) = 0");
        Script.check("9: 1 tick", TWO, "pass(1) = 0; account(0) = 1");
        Script.check("9: 99 ticks", TWO, "pass(99) = 20; account(0) = 99");
        Script.check("9: returns how many meals are had in them", "join(0, 1, 1) = 0; join(0, 9, 9) = 1; pass(2) = 1",
            "pass(1) = 0; pass(1) = 1");
    }

    private static void seatOf() {
        Script.check("10: there is no such seat", "seatOf(0, 0) = throws IndexOutOfBoundsException", TWO,
            "seatOf(2, 0) = throws IndexOutOfBoundsException; seatOf(-1, 0) = throws IndexOutOfBoundsException",
            "seatOf(2147483647, 0) = throws IndexOutOfBoundsException",
            "seatOf(-2147483648, 0) = throws IndexOutOfBoundsException; leave() = 1",
            "seatOf(1, 0) = throws IndexOutOfBoundsException");
        Script.check("10: what is not from 0 to 9", TWO, "seatOf(0, -1) = throws IllegalArgumentException",
            "seatOf(1, 10) = throws IllegalArgumentException; seatOf(1, 2147483647) = throws IllegalArgumentException",
            "seatOf(1, -2147483648) = throws IllegalArgumentException; seatOf(1, 0) = 0; seatOf(1, 9) = 0");
        Script.check("10: no such seat goes before a wrong what", TWO, "seatOf(2, 10) = throws IndexOutOfBoundsException",
            "seatOf(-1, -1) = throws IndexOutOfBoundsException");
        Script.check("10: the ticks that it still thinks or eats, otherwise 0", THREE_AT_TABLE,
            "seatOf(0, 4) = 9; seatOf(1, 4) = 0; seatOf(2, 4) = 0");
        Script.check("10: 0 ticks also for one that asks", TWO, "waiter(1) = 0; pass(1) = 0; seatOf(1, 3) = 1",
            "seatOf(1, 4) = 0");
        Script.check("10: the break of a wait is a meal's begin", TWO, "pass(1) = 0; seatOf(1, 7) = 1; pass(1) = 1",
            "seatOf(1, 6) = 1; seatOf(1, 7) = 0; seatOf(1, 8) = 1");
    }

    private static void ladles() {
        Script.check("11: there is no such seat", "ladle(0, true) = throws IndexOutOfBoundsException", TWO,
            "ladle(2, true) = throws IndexOutOfBoundsException; ladle(-1, false) = throws IndexOutOfBoundsException",
            "ladle(2147483647, true) = throws IndexOutOfBoundsException",
            "ladle(-2147483648, true) = throws IndexOutOfBoundsException");
        Script.check("12: -1 if it is free", TWO, "holder(0) = -1; holder(1) = -1; pass(1) = 0; holder(0) = 0",
            "holder(1) = 0");
        Script.check("12: there is no such ladle", "holder(0) = throws IndexOutOfBoundsException", TWO,
            "holder(2) = throws IndexOutOfBoundsException; holder(-1) = throws IndexOutOfBoundsException",
            "holder(2147483647) = throws IndexOutOfBoundsException; holder(-2147483648) = throws IndexOutOfBoundsException");
        Script.check("12: the last ladle of eight", eight(LEFT, 1, 9), "pass(1) = 0; holder(7) = 0; holder(6) = 6",
            "holder(8) = throws IndexOutOfBoundsException");
    }

    private static void waitsForAndAsking() {
        Script.check("13: there is no such seat", "waitsFor(0) = throws IndexOutOfBoundsException", TWO,
            "waitsFor(2) = throws IndexOutOfBoundsException; waitsFor(-1) = throws IndexOutOfBoundsException",
            "waitsFor(2147483647) = throws IndexOutOfBoundsException",
            "waitsFor(-2147483648) = throws IndexOutOfBoundsException");
        Script.check("13: it waits for none", THREE_AT_TABLE, "waitsFor(0) = throws NoSuchElementException",
            "waitsFor(1) = 0; waitsFor(2) = 0");
        Script.check("13: one that thinks waits for none", TWO, "waitsFor(0) = throws NoSuchElementException");
        Script.check("13: one that asks waits for none", TWO, "waiter(1) = 0; pass(1) = 0",
            "waitsFor(1) = throws NoSuchElementException");
        Script.check("14: there is no such place", TWO, "asking(0) = throws NoSuchElementException; waiter(1) = 0",
            "pass(1) = 0; asking(0) = 1; asking(1) = throws NoSuchElementException",
            "asking(-1) = throws NoSuchElementException; asking(2147483647) = throws NoSuchElementException",
            "asking(-2147483648) = throws NoSuchElementException");
        Script.check("14: there is no such place without seats", "asking(0) = throws NoSuchElementException",
            "asking(-1) = throws NoSuchElementException");
        Script.check("14: the last place of the most that ask", eight(LEFT, 1, 9), "waiter(1) = 0; pass(1) = 0",
            "asking(0) = 1; asking(6) = 7; asking(7) = throws NoSuchElementException");
    }

    private static void isSure() {
        Script.check("19: there are two seats at least", "isSure() = false; waiter(1) = 0; isSure() = false",
            "join(0, 1, 1) = 0; isSure() = false; join(0, 1, 1) = 1; isSure() = true");
        Script.check("19: not all of them have the same manner", TWO, "isSure() = false; manner(1, 1) = 0; isSure() = true",
            "manner(0, 1) = 0; isSure() = false");
        Script.check("19: just the last of eight has another manner", eight(LEFT, 1, 9), "isSure() = false",
            "manner(7, 1) = 0; isSure() = true");
        Script.check("19: just the first of eight has another manner", eight(LEFT, 1, 9), "manner(0, 1) = 0",
            "isSure() = true");
        Script.check("19: the waiter lets fewer have leave than there are seats", eight(LEFT, 1, 9),
            "waiter(8) = 0; isSure() = false; waiter(7) = 8; isSure() = true; waiter(0) = 7; isSure() = false",
            "waiter(1) = 0; isSure() = true");
        Script.check("19: a seat that leaves", TWO, "join(0, 1, 1) = 2; waiter(2) = 0; isSure() = true; leave() = 2",
            "isSure() = false");
    }

    private static void mealsIn() {
        Script.check("20: 0 to 99 ticks", TWO, "mealsIn(0) = 0; mealsIn(1) = 0; mealsIn(2) = 1; mealsIn(99) = 20",
            "mealsIn(-1) = throws IllegalArgumentException; mealsIn(100) = throws IllegalArgumentException",
            "mealsIn(-2147483648) = throws IllegalArgumentException; mealsIn(2147483647) = throws IllegalArgumentException");
        Script.check("20: 0 with fewer than 2 seats", "mealsIn(0) = 0; mealsIn(99) = 0; join(0, 1, 1) = 0; mealsIn(99) = 0");
        Script.check("20: the number is looked at before the seats", "mealsIn(-1) = throws IllegalArgumentException",
            "mealsIn(100) = throws IllegalArgumentException");
        Script.check("20: in the last of 99 ticks", "join(0, 9, 9) = 0; join(1, 9, 1) = 1; pass(81) = 8; mealsIn(98) = 10",
            "mealsIn(99) = 11; pass(99) = 11");
        Script.check("20: no tick goes by", TWO, "mealsIn(99) = 20; account(0) = 0; account(2) = 20; seatOf(0, 5) = 0",
            "account(10) = 2");
    }

    private static void stuckIn() {
        Script.check("21: 0 if one is stuck now", TWO_STUCK, "stuckIn() = 0");
        Script.check("21: in 1 tick", TWO_WITHOUT_SOUP, "stuckIn() = 1");
        Script.check("21: in 99 ticks", TWO, "bring(77) = 97; stuckIn() = 99; pass(98) = 97; stuck() = 0; pass(1) = 0",
            "stuck() = 3");
        Script.check("21: none is in 99 ticks", TWO, "bring(78) = 98; stuckIn() = throws NoSuchElementException",
            "pass(1) = 0; stuckIn() = 99");
        Script.check("21: there are fewer than 2 seats", "stuckIn() = throws NoSuchElementException; join(0, 1, 1) = 0",
            "stuckIn() = throws NoSuchElementException");
        Script.check("21: no tick goes by", TWO, "stuckIn() = 22; account(0) = 0; account(2) = 20; stuck() = 0",
            "account(10) = 2");
    }

    private static void hungriestAndRounds() {
        Script.check("22: there is no such place", "hungriest(0) = throws NoSuchElementException; join(0, 1, 1) = 0",
            "hungriest(0) = 0; hungriest(1) = throws NoSuchElementException; hungriest(-1) = throws NoSuchElementException",
            "hungriest(2147483647) = throws NoSuchElementException; hungriest(-2147483648) = throws NoSuchElementException");
        Script.check("22: of these the lowest", eight(LEFT, 1, 9), "hungriest(0) = 0; hungriest(7) = 7",
            "hungriest(8) = throws NoSuchElementException");
        Script.check("22: of several the one that waited longer so far", THREE_AT_TABLE, "hungriest(0) = 1",
            "hungriest(1) = 2; hungriest(2) = 0");
        Script.check("22: it waited so far, also if it has not waited now", TWO, "pass(3) = 2; seatOf(0, 5) = 1",
            "seatOf(1, 5) = 1; seatOf(0, 6) = 0; seatOf(1, 6) = 1; seatOf(1, 7) = 0; hungriest(0) = 1; hungriest(1) = 0");
        Script.check("22: the fewest meals first", "join(0, 1, 1) = 0; join(0, 9, 9) = 1; pass(2) = 1; hungriest(0) = 1",
            "hungriest(1) = 0");
        Script.check("23: 0 without seats", "rounds() = 0", TWO, "pass(3) = 2; rounds() = 1; pass(19) = 18; take(0) = 1",
            "take(1) = 0; leave() = 1; rounds() = 10; leave() = 0; rounds() = 0");
        Script.check("23: at least", TWO, "pass(2) = 1; rounds() = 0; pass(1) = 1; rounds() = 1; pass(1) = 1; rounds() = 1");
    }

    private static void areNeighbours() {
        Script.check("24: there is no such seat, for either", "areNeighbours(0, 0) = throws IndexOutOfBoundsException", TWO,
            "areNeighbours(2, 0) = throws IndexOutOfBoundsException",
            "areNeighbours(0, 2) = throws IndexOutOfBoundsException",
            "areNeighbours(-1, 0) = throws IndexOutOfBoundsException",
            "areNeighbours(0, -1) = throws IndexOutOfBoundsException",
            "areNeighbours(2, 2) = throws IndexOutOfBoundsException",
            "areNeighbours(2147483647, 0) = throws IndexOutOfBoundsException",
            "areNeighbours(0, -2147483648) = throws IndexOutOfBoundsException");
        Script.check("24: two unlike seats", "join(0, 1, 1) = 0; areNeighbours(0, 0) = false; join(0, 1, 1) = 1",
            "areNeighbours(1, 1) = false; areNeighbours(0, 1) = true");
        Script.check("24: the last one and the seat 0", eight(LEFT, 1, 9), "areNeighbours(7, 0) = true",
            "areNeighbours(0, 7) = true; areNeighbours(6, 0) = false; areNeighbours(0, 6) = false",
            "areNeighbours(7, 1) = false; areNeighbours(6, 7) = true; areNeighbours(0, 2) = false",
            "areNeighbours(7, 7) = false");
    }

    private static void append() {
        String fiftyNine = "p1;p1;p1;p1;p1;p1;p1;p1;p1;p1;p1;p1;p1;p1;p1;p1;p1;p1;p1;p1";
        Script.check("25: the buffer contains 60 characters",
            "type(\"" + fiftyNine + "\") = 59; append(';') = 60; append('x') = throws IllegalStateException",
            "account(11) = 60; commands() = throws IllegalArgumentException; faultPosition() = 60; account(11) = 0",
            "append('x') = 1");
        Script.check("25: any character", "append(0) = 1; append(65535) = 2; append(';') = 3");
        Script.check("26: a text of 59 characters", "say(\"" + fiftyNine + "\") = 20; account(2) = 40");
        Script.check("26: a text of 60 characters",
            "say(\"" + fiftyNine + "0\") = 20; account(2) = 49; say(\"" + fiftyNine + "0\") = 20; account(2) = 78");
    }

    private static void commands() {
        Script.check("26: if one is refused, none is carried out: the first one", "say(\"p0;p1\") = refused 1 0 0",
            "account(2) = 20; account(10) = 0");
        Script.check("26: if one is refused, none is carried out: the last one", "say(\"p1;+l11;w1;p0\") = refused 1 0 3",
            "accounts() = \"0 0 20 0 0 0 0 0 0 0 0 0\"");
        Script.check("26: the buffer is empty afterwards", "say(\"p1\") = 1; account(11) = 0");
        Script.check("26: the buffer is empty afterwards, also if the text has a fault",
            "say(\"p1;x\") = throws IllegalArgumentException; account(11) = 0; say(\"p1\") = 1");
        Script.check("26: the buffer is empty afterwards, also if a command is refused", "say(\"p1;p0\") = refused 1 0 1",
            "account(11) = 0; say(\"p1\") = 1");
        Script.check("26: a fault goes before a refused command", "say(\"p0;p\") = throws IllegalArgumentException",
            "reason(0) = throws NoSuchElementException; faultPosition() = 4");
        Script.check("26: one text is one change", "say(\"+l11;+l11;t99;p99\") = 4; account(10) = 1; undo() = 0",
            "account(1) = 0; account(2) = 20; account(0) = 0");
        Script.check("26: the reasons of the methods, in their order", TWO, "say(\"+l01\") = refused 1 0 0",
            "say(\"+r10\") = refused 1 0 0; say(\"m9l\") = refused 3 9 0; say(\"m1l\") = refused 7 0 0",
            "say(\"k200\") = refused 3 2 0; say(\"k100\") = refused 1 0 0; say(\"k109\") = refused 1 0 0",
            "say(\"w9\") = refused 1 0 0; say(\"w0\") = refused 7 0 0; say(\"p0\") = refused 1 0 0",
            "say(\"p00\") = refused 1 0 0; say(\"p80\") = refused 2 99 0; say(\"d2\") = refused 3 2 0",
            "say(\"d1\") = refused 6 0 0; say(\"t0\") = refused 1 0 0; say(\"t00\") = refused 1 0 0",
            "say(\"-;t1\") = refused 5 1 1; say(\"-;-;-\") = refused 5 0 2; say(\"t1;-\") = refused 4 2 1",
            "say(\"t1;+l11\") = refused 4 2 1; accounts() = \"0 2 20 0 0 0 0 0 0 0 2 0\"");
    }

    private static void commandsOfTheLastSeat() {
        Script.check("26: seats have one digit", eight(LEFT, 1, 9), "say(\"m7r;k799;w8\") = 3; seatOf(7, 0) = 1",
            "seatOf(7, 1) = 9; seatOf(7, 2) = 9; account(3) = 8; say(\"m8r\") = refused 3 8 0",
            "say(\"k811\") = refused 3 8 0; say(\"d8\") = refused 3 8 0; say(\"+l11\") = refused 2 8 0",
            "say(\"-;+r91\") = 2");
        Script.check("26: the ladle of the last seat", TWO_WITHOUT_SOUP, "take(0) = 1",
            "say(\"+l11;+l11;+l11;+l11;+l11;+l11;t1\") = 7; holder(6) = 7; say(\"d7\") = 1; holder(6) = -1",
            "seatOf(7, 3) = 2; say(\"d7\") = refused 6 2 0");
        Script.check("26: 1 or 2 digits", "say(\"p1\") = 1; say(\"p01\") = 1; say(\"p10\") = 1; account(2) = 32",
            "say(\"p67\") = 1; account(2) = 99");
        Script.check("26: 99 bowls, and 99 ticks", TWO_WITHOUT_SOUP, "say(\"p99;t99\") = 2; account(0) = 120",
            "account(5) = 119");
    }

    private static void faultPosition() {
        Script.check("27: -1 if there was no such call", "faultPosition() = -1; type(\"x\") = 1; faultPosition() = -1");
        Script.check("27: -1 if that text had no fault", "say(\"x\") = throws IllegalArgumentException",
            "faultPosition() = 0; say(\"p1\") = 1; faultPosition() = -1");
        Script.check("27: -1 if a command was refused", "say(\"x\") = throws IllegalArgumentException",
            "say(\"p0\") = refused 1 0 0; faultPosition() = -1");
        Script.check("27: an empty text ends too early", "commands() = throws IllegalArgumentException",
            "faultPosition() = 0");
        Script.check("27: the length of the text if it ends too early", "say(\"p1;\") = throws IllegalArgumentException",
            "faultPosition() = 3; say(\"+l1\") = throws IllegalArgumentException; faultPosition() = 3",
            "say(\"k\") = throws IllegalArgumentException; faultPosition() = 1");
        Script.check("27: the first character that cannot continue such a text",
            "say(\"p123\") = throws IllegalArgumentException; faultPosition() = 3",
            "say(\"w12\") = throws IllegalArgumentException; faultPosition() = 2",
            "say(\"p1;;p1\") = throws IllegalArgumentException; faultPosition() = 3",
            "say(\";p1\") = throws IllegalArgumentException; faultPosition() = 0");
        Script.check("27: it stays with undo and restore", "save() = 0; bring(1) = 21",
            "say(\"p\") = throws IllegalArgumentException; undo() = 0; faultPosition() = 1; restore() = 0",
            "faultPosition() = 1");
    }

    private static void reason() {
        Script.check("28: what is not from 0 to 2", "bring(0) = refused 1 0 0",
            "reason(-1) = throws IllegalArgumentException; reason(3) = throws IllegalArgumentException",
            "reason(2147483647) = throws IllegalArgumentException; reason(-2147483648) = throws IllegalArgumentException");
        Script.check("28: nothing was refused", "reason(0) = throws NoSuchElementException",
            "reason(1) = throws NoSuchElementException; reason(2) = throws NoSuchElementException; bring(1) = 21",
            "say(\"x\") = throws IllegalArgumentException; seatOf(0, 0) = throws IndexOutOfBoundsException",
            "reason(0) = throws NoSuchElementException");
        Script.check("28: a wrong what goes before nothing that was refused",
            "reason(-1) = throws IllegalArgumentException; reason(3) = throws IllegalArgumentException");
        Script.check("28: the index of the command, or 0 for another call", "say(\"p1;p1;d5\") = refused 3 5 2",
            "take(6) = refused 3 6 0; say(\"p0\") = refused 1 0 0");
        Script.check("28: the detail is 0 if nothing else is told", "take(6) = refused 3 6 0; waiter(0) = refused 7 0 0",
            "take(6) = refused 3 6 0; bring(0) = refused 1 0 0");
        Script.check("28: it is kept by calls that are not refused", "take(6) = refused 3 6 0; bring(1) = 21; undo() = 0",
            "save() = 0; restore() = 0; reasons() = \"3 6 0\"");
    }

    private static void line() {
        Script.check("29: without seats", "line() = 0; character(0) = throws IndexOutOfBoundsException");
        Script.check("29: a blank between two", "join(1, 1, 1) = 0; written() = \"0r.\"; join(0, 1, 1) = 1",
            "written() = \"0r. 1l.\"; line() = 7");
        Script.check("29: eight seats", eight(RIGHT, 1, 9), "line() = 31; written() = \"0r. 1r. 2r. 3r. 4r. 5r. 6r. 7r.\"",
            "character(31) = throws IndexOutOfBoundsException");
        Script.check("29: the longest line", TWO_WITHOUT_SOUP, "take(0) = 1; say(\"+l11;+l11;+l11;+l11;+l11;+l11;t1\") = 7",
            "line() = 39; written() = \"0l1! 1l1! 2l1! 3l1! 4l1! 5l1! 6l1! 7l1!\"",
            "character(39) = throws IndexOutOfBoundsException");
        Script.check("29: in place of the line before", TWO, "line() = 7; leave() = 1; line() = 3",
            "character(3) = throws IndexOutOfBoundsException; leave() = 0; line() = 0",
            "character(0) = throws IndexOutOfBoundsException");
        Script.check("30: there is no such index", TWO, "line() = 7; character(0) = '0'; character(6) = '.'",
            "character(7) = throws IndexOutOfBoundsException; character(-1) = throws IndexOutOfBoundsException",
            "character(2147483647) = throws IndexOutOfBoundsException",
            "character(-2147483648) = throws IndexOutOfBoundsException");
        Script.check("30: it is empty at first", TWO, "character(0) = throws IndexOutOfBoundsException");
        Script.check("30: it stays with other calls", TWO, "line() = 7; pass(1) = 0; character(2) = '.'; undo() = 2",
            "undo() = 1; undo() = 0; save() = 0; restore() = 0; character(6) = '.'");
    }

    private static void meanWait() {
        Script.check("31: no meal was had", "meanWait() = throws ArithmeticException", TWO,
            "meanWait() = throws ArithmeticException; pass(1) = 0; seatOf(1, 6) = 1",
            "meanWait() = throws ArithmeticException; pass(1) = 1; meanWait() = 1.0");
        Script.check("31: what a seat had went with it", "join(0, 9, 1) = 0; join(0, 1, 1) = 1; pass(2) = 1",
            "meanWait() = 0.0; leave() = 1; meanWait() = throws ArithmeticException");
        Script.check("31: divided as doubles", TWO, "pass(4) = 3; meanWait() = 0.3333333333333333");
        Script.check("31: with undo the meal is not had", TWO, "pass(2) = 1; undo() = 2",
            "meanWait() = throws ArithmeticException");
    }

    private static void fairness() {
        Script.check("32: no seat that is there has had a meal", "fairness() = throws ArithmeticException", TWO,
            "fairness() = throws ArithmeticException; pass(1) = 0; fairness() = throws ArithmeticException; pass(1) = 1",
            "fairness() = 0.0; pass(1) = 1; fairness() = 1.0");
        Script.check("32: what a seat had went with it", "join(0, 9, 1) = 0; join(0, 1, 1) = 1; pass(2) = 1",
            "fairness() = 0.0; leave() = 1; fairness() = throws ArithmeticException");
        Script.check("32: divided as floats", TWO, "pass(6) = 5; fairness() = 0.6666667");
    }

    private static void account() {
        Script.check("33: what is not from 0 to 11", "account(-1) = throws IllegalArgumentException",
            "account(12) = throws IllegalArgumentException; account(0) = 0; account(11) = 0",
            "account(2147483647) = throws IllegalArgumentException; account(-2147483648) = throws IllegalArgumentException");
        Script.check("33: all the ladles, and all the leave", eight(LEFT, 1, 9), "pass(1) = 0; account(6) = 8",
            "account(7) = 8; account(8) = 0; account(1) = 8");
        Script.check("33: at most 8 changes, and 60 characters", bringing(9, 20), "account(10) = 8",
            "type(\"123456789012345678901234567890123456789012345678901234567890\") = 60; account(11) = 60");
        Script.check("33: the bowls and the ladles taken so far stay when seats leave", TWO_STUCK,
            "take(0) = 1; take(1) = 0; leave() = 1; leave() = 0; account(5) = 20; account(9) = 2; account(4) = 0",
            "account(0) = 22");
    }

    private static void undo() {
        Script.check("34: there is none", "undo() = throws IllegalStateException; bring(1) = 21; undo() = 0",
            "undo() = throws IllegalStateException; account(2) = 20");
        Script.check("34: 8 are kept", bringing(8, 20), "undo() = 7; undo() = 6; undo() = 5; undo() = 4; undo() = 3",
            "undo() = 2; undo() = 1; undo() = 0; account(2) = 20; undo() = throws IllegalStateException");
        Script.check("34: of 9 the latest 8 are kept", bringing(9, 20), "undo() = 7; undo() = 6; undo() = 5; undo() = 4",
            "undo() = 3; undo() = 2; undo() = 1; undo() = 0; account(2) = 21; undo() = throws IllegalStateException");
        Script.check("34: of 30 the latest 8 are kept", bringing(30, 20), "undo() = 7; undo() = 6; undo() = 5; undo() = 4",
            "undo() = 3; undo() = 2; undo() = 1; undo() = 0; account(2) = 42");
        Script.check("34: what is refused cannot be undone", "bring(0) = refused 1 0 0; say(\"p1;p0\") = refused 1 0 1",
            "undo() = throws IllegalStateException");
        Script.check("34: an undo cannot be undone", "bring(1) = 21; bring(2) = 23; undo() = 1; undo() = 0",
            "account(2) = 20");
        Script.check("34: a change is undone also if it changes no number", "join(0, 1, 1) = 0; clocks(0, 1, 1) = 11",
            "account(10) = 2; undo() = 1; undo() = 0; account(1) = 0");
    }

    private static void snapshot() {
        Script.check("35: returns the number of seats", "save() = 0", eight(LEFT, 1, 9), "save() = 8; leave() = 7",
            "restore() = 8");
        Script.check("35: in place of an earlier snapshot", "save() = 0; bring(1) = 21; save() = 0; bring(1) = 22",
            "restore() = 0; account(2) = 21");
        Script.check("35: to save is no change", "bring(1) = 21; save() = 0; account(10) = 1; undo() = 0; account(2) = 20");
        Script.check("36: there is no snapshot", "restore() = throws IllegalStateException; bring(1) = 21",
            "restore() = throws IllegalStateException; account(10) = 1");
        Script.check("36: the snapshot is kept", "save() = 0; bring(1) = 21; restore() = 0; account(2) = 20; bring(2) = 22",
            "restore() = 0; account(2) = 20");
        Script.check("36: restore forgets what can be undone", "save() = 0; bring(1) = 21; bring(1) = 22; restore() = 0",
            "account(10) = 0; undo() = throws IllegalStateException; bring(1) = 21; undo() = 0; account(2) = 20");
        Script.check("36: the snapshot is no later state", TWO, "save() = 2; pass(5) = 4; manner(0, 1) = 4",
            "clocks(1, 9, 9) = 11; restore() = 2; seat(0) = \"0 1 1 0 1 0 0 0 0 0\"; seat(1) = \"0 1 1 0 1 0 0 0 0 0\"",
            "accounts() = \"0 2 20 0 0 0 0 0 0 0 0 0\"");
    }

    /** An object is used for at most 512 calls. */
    private static void allCalls() {
        SoupTable table = new SoupTable();
        for (int k = 0; k < 8; k++) {
            table.join(k % 2, 1, 1);
        }
        int meals = 0;
        for (int turn = 0; turn < 167; turn++) {
            meals += table.pass(99);
            table.bring(99 - table.account(2));
        }
        Script.same("the tick after 509 calls", table.account(0), 167 * 99);
        Script.same("the meals after 510 calls", table.account(4), meals);
    }
}
