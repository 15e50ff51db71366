import java.util.NoSuchElementException;
import java.util.Random;

/** What the document says of every state, looked at in many states by the face alone. */
public final class RulesTest {
    private static final int RUNS = 3000;
    private static final int CHANGES_OF_A_RUN = 12;

    private final Random random;
    private final SoupTable table = new SoupTable();
    private final String title;

    private RulesTest(int seed) {
        random = new Random(seed);
        title = "in the run " + seed + ", ";
    }

    public static void main(String[] args) {
        for (int seed = 0; seed < RUNS; seed++) {
            new RulesTest(seed).run();
        }
        Script.end();
    }

    private void run() {
        int manner = random.nextInt(3);
        for (int seats = random.nextInt(9); seats > 0; seats--) {
            table.join(manner == 2 ? random.nextInt(2) : manner, 1 + random.nextInt(3), 1 + random.nextInt(4));
        }
        for (int k = 0; k < CHANGES_OF_A_RUN; k++) {
            try {
                change();
            } catch (UnsupportedOperationException e) {
                Script.same(title + "a reason is kept", table.reason(0) >= 1 && table.reason(0) <= 7, true);
            }
        }
        ladlesAreHeldByWhoHoldsThem();
        noNeighboursEatWithOneLadle();
        bothWaysOfStuckAreTheSame();
        theHungriestAreInOrder();
        ticksBringWhatWasTold();
    }

    private void change() {
        int seat = random.nextInt(8);
        switch (random.nextInt(9)) {
            case 0: table.manner(seat, random.nextInt(2)); break;
            case 1: table.clocks(seat, 1 + random.nextInt(9), 1 + random.nextInt(9)); break;
            case 2: table.waiter(random.nextInt(9)); break;
            case 3: table.bring(1 + random.nextInt(40)); break;
            case 4: table.take(seat); break;
            case 5: table.leave(); break;
            default: table.pass(1 + random.nextInt(random.nextInt(4) == 0 ? 40 : 3)); break;
        }
    }

    private void ladlesAreHeldByWhoHoldsThem() {
        int[] held = new int[8];
        int seats = table.account(1);
        for (int ladle = 0; ladle < seats; ladle++) {
            int seat = table.holder(ladle);
            if (seat >= 0) {
                held[seat]++;
                boolean isNear = table.ladle(seat, true) == ladle || table.ladle(seat, false) == ladle;
                Script.same(title + "a ladle is held by a seat beside it", isNear, true);
            }
        }
        for (int seat = 0; seat < seats; seat++) {
            int how = table.seatOf(seat, 3);
            Script.same(title + "the ladles of a seat", held[seat], how == 4 ? 2 : how == 3 ? 1 : 0);
            Script.same(title + "the leave of a seat", table.seatOf(seat, 9), how >= 2 ? 1 : 0);
            Script.same(title + "the ticks of a seat", table.seatOf(seat, 4) > 0, how == 0 || how == 4);
        }
    }

    private void noNeighboursEatWithOneLadle() {
        int eaters = table.eaters();
        for (int one = 0; one < table.account(1); one++) {
            for (int other = 0; other < one; other++) {
                boolean bothEat = (eaters >> one & 1) == 1 && (eaters >> other & 1) == 1;
                Script.same(title + "neighbours eat", bothEat && table.areNeighbours(one, other), false);
            }
        }
    }

    private void bothWaysOfStuckAreTheSame() {
        Script.same(title + "stuck by the second way", table.stuckAgain(), table.stuck());
        Script.same(title + "those of rings that are not stuck", table.ring() & ~table.stuck(), 0);
        for (int seat = 0; seat < table.account(1); seat++) {
            if ((table.ring() >> seat & 1) == 1) {
                Script.same(title + "one in a ring waits for one in a ring", table.ring() >> table.waitsFor(seat) & 1, 1);
            }
        }
    }

    private void theHungriestAreInOrder() {
        for (int place = 1; place < table.account(1); place++) {
            int one = table.hungriest(place - 1);
            int next = table.hungriest(place);
            int meals = table.seatOf(next, 5) - table.seatOf(one, 5);
            int waits = table.seatOf(one, 6) - table.seatOf(next, 6);
            boolean isInOrder = meals > 0 || meals == 0 && (waits > 0 || waits == 0 && one < next);
            Script.same(title + "the hungriest are in order", isInOrder, true);
        }
    }

    private void ticksBringWhatWasTold() {
        if (table.account(1) < 2) {
            return;
        }
        int ticks = 1 + random.nextInt(99);
        int told = table.mealsIn(ticks);
        int stuckIn = stuckIn();
        Script.same(title + "the meals that were told", table.pass(ticks), told);
        table.undo();
        if (stuckIn > 0) {
            for (int k = 0; k < stuckIn; k++) {
                Script.same(title + "stuck too early", table.stuck(), 0);
                table.pass(1);
            }
        }
        Script.same(title + "stuck in the tick that was told", table.stuck() != 0, stuckIn >= 0);
    }

    private int stuckIn() {
        try {
            return table.stuckIn();
        } catch (NoSuchElementException e) {
            return -1;
        }
    }
}
