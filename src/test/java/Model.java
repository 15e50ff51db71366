import java.util.ArrayDeque;
import java.util.ArrayList;
import java.util.Deque;
import java.util.LinkedHashSet;
import java.util.List;
import java.util.NoSuchElementException;
import java.util.Set;
import java.util.TreeSet;
import java.util.regex.Matcher;
import java.util.regex.Pattern;

/** The document once more, written with the Java library and in another way than the class, to be compared with it. */
final class Model {
    private static final String COMMAND =
        "(?:\\+[lr][0-9][0-9]|-|m[0-9][lr]|k[0-9][0-9][0-9]|w[0-9]|p[0-9][0-9]?|d[0-9]|t[0-9][0-9]?)";
    private static final Pattern TEXT = Pattern.compile(COMMAND + "(?:;" + COMMAND + ")*", Pattern.DOTALL);

    private enum How { THINKS, ASKS, WAITS, HOLDS, EATS }

    private static final class Philosopher implements Cloneable {
        boolean takesRightFirst;
        int think;
        int eat;
        How how = How.THINKS;
        int left;
        int meals;
        int waited;
        int waitsNow;
        int longest;
        boolean hasLeave;
        boolean hasLeft;
        boolean hasRight;

        Philosopher copy() {
            try {
                return (Philosopher) clone();
            } catch (CloneNotSupportedException e) {
                throw new AssertionError(e);
            }
        }
    }

    private static final class Kitchen {
        final List<Philosopher> seats = new ArrayList<>();
        final List<Philosopher> queue = new ArrayList<>();
        int waiter;
        int pot = 20;
        int tick;
        int eaten;
        int taken;

        Kitchen copy() {
            Kitchen copy = new Kitchen();
            for (Philosopher p : seats) {
                copy.seats.add(p.copy());
            }
            for (Philosopher p : queue) {
                copy.queue.add(copy.seats.get(seats.indexOf(p)));
            }
            copy.waiter = waiter;
            copy.pot = pot;
            copy.tick = tick;
            copy.eaten = eaten;
            copy.taken = taken;
            return copy;
        }
    }

    private Kitchen kitchen = new Kitchen();
    private Kitchen snapshot;
    private final Deque<Kitchen> earlier = new ArrayDeque<>();
    private final StringBuilder buffer = new StringBuilder();
    private String written = "";
    private int fault = -1;
    private int[] why;

    private static final class Refused extends RuntimeException {
        private static final long serialVersionUID = 1;
        final int reason;
        final int detail;

        Refused(int reason, int detail) {
            this.reason = reason;
            this.detail = detail;
        }
    }

    private interface Change {
        int carryOut();
    }

    private int changing(Change change) {
        Kitchen old = kitchen.copy();
        int answer;
        try {
            answer = change.carryOut();
        } catch (Refused refused) {
            kitchen = old;
            why = new int[] {refused.reason, refused.detail, 0};
            throw new UnsupportedOperationException();
        }
        remember(old);
        return answer;
    }

    private void remember(Kitchen old) {
        earlier.addLast(old);
        if (earlier.size() > 8) {
            earlier.removeFirst();
        }
    }

    private static void refuseIf(boolean condition, int reason, int detail) {
        if (condition) {
            throw new Refused(reason, detail);
        }
    }

    private static boolean isOutside(int number, int low, int high) {
        return number < low || number > high;
    }

    int join(int manner, int think, int eat) {
        return changing(() -> doJoin(manner, think, eat));
    }

    int leave() {
        return changing(this::doLeave);
    }

    int manner(int seat, int manner) {
        return changing(() -> doManner(seat, manner));
    }

    int clocks(int seat, int think, int eat) {
        return changing(() -> doClocks(seat, think, eat));
    }

    int waiter(int number) {
        return changing(() -> doWaiter(number));
    }

    int bring(int bowls) {
        return changing(() -> doBring(bowls));
    }

    int take(int seat) {
        return changing(() -> doTake(seat));
    }

    int pass(int ticks) {
        return changing(() -> doPass(ticks));
    }

    private int doJoin(int manner, int think, int eat) {
        refuseIf(isOutside(manner, 0, 1) || isOutside(think, 1, 9) || isOutside(eat, 1, 9), 1, 0);
        refuseIf(kitchen.seats.size() == 8, 2, 8);
        refuseIf(held() > 0, 4, held());
        Philosopher p = new Philosopher();
        p.takesRightFirst = manner == 1;
        p.think = think;
        p.eat = eat;
        p.left = think;
        kitchen.seats.add(p);
        return kitchen.seats.indexOf(p);
    }

    private int doLeave() {
        refuseIf(kitchen.seats.isEmpty(), 5, 0);
        refuseIf(held() > 0, 4, held());
        kitchen.queue.remove(kitchen.seats.remove(kitchen.seats.size() - 1));
        return kitchen.seats.size();
    }

    private int doManner(int seat, int manner) {
        refuseIf(!isSeat(seat), 3, seat);
        refuseIf(isOutside(manner, 0, 1), 1, 0);
        Philosopher p = kitchen.seats.get(seat);
        refuseIf(p.takesRightFirst == (manner == 1), 7, 0);
        p.takesRightFirst = manner == 1;
        return p.how.ordinal();
    }

    private int doClocks(int seat, int think, int eat) {
        refuseIf(!isSeat(seat), 3, seat);
        refuseIf(isOutside(think, 1, 9) || isOutside(eat, 1, 9), 1, 0);
        Philosopher p = kitchen.seats.get(seat);
        int answer = Integer.parseInt("" + p.think + p.eat);
        p.think = think;
        p.eat = eat;
        return answer;
    }

    private int doWaiter(int number) {
        refuseIf(isOutside(number, 0, 8), 1, 0);
        refuseIf(kitchen.waiter == number, 7, 0);
        int answer = kitchen.waiter;
        kitchen.waiter = number;
        return answer;
    }

    private int doBring(int bowls) {
        refuseIf(isOutside(bowls, 1, 99), 1, 0);
        refuseIf(kitchen.pot + bowls > 99, 2, 99);
        return kitchen.pot += bowls;
    }

    private int doTake(int seat) {
        refuseIf(!isSeat(seat), 3, seat);
        Philosopher p = kitchen.seats.get(seat);
        refuseIf(p.hasLeft == p.hasRight, 6, p.how.ordinal());
        int answer = p.hasRight ? seat : leftOf(seat);
        p.hasLeft = false;
        p.hasRight = false;
        p.how = How.WAITS;
        kitchen.taken++;
        return answer;
    }

    private int doPass(int ticks) {
        refuseIf(isOutside(ticks, 1, 99), 1, 0);
        refuseIf(kitchen.seats.size() < 2, 5, kitchen.seats.size());
        int meals = 0;
        for (int k = 0; k < ticks; k++) {
            meals += tick();
        }
        return meals;
    }

    private int tick() {
        kitchen.tick++;
        int meals = 0;
        for (Philosopher p : kitchen.seats) {
            if (p.how == How.THINKS && --p.left == 0) {
                p.how = How.ASKS;
                kitchen.queue.add(p);
            } else if (p.how == How.EATS && --p.left == 0) {
                p.hasLeft = false;
                p.hasRight = false;
                p.hasLeave = false;
                p.meals++;
                p.how = How.THINKS;
                p.left = p.think;
                meals++;
            }
        }
        while (!kitchen.queue.isEmpty() && waiterLets()) {
            Philosopher p = kitchen.queue.remove(0);
            p.hasLeave = true;
            p.how = How.WAITS;
        }
        for (int k = 0; k < kitchen.seats.size(); k++) {
            serve(k, kitchen.seats.get(k));
        }
        for (Philosopher p : kitchen.seats) {
            if (p.how != How.THINKS && p.how != How.EATS) {
                p.waited++;
                p.waitsNow++;
                p.longest = Math.max(p.longest, p.waitsNow);
            }
        }
        return meals;
    }

    private void serve(int k, Philosopher p) {
        if (p.how == How.WAITS) {
            if (p.takesRightFirst && holderOf(k) < 0) {
                p.hasRight = true;
                p.how = How.HOLDS;
            } else if (!p.takesRightFirst && holderOf(leftOf(k)) < 0) {
                p.hasLeft = true;
                p.how = How.HOLDS;
            }
        }
        if (p.how == How.HOLDS && kitchen.pot > 0 && holderOf(p.hasRight ? leftOf(k) : k) < 0) {
            p.hasLeft = true;
            p.hasRight = true;
            p.how = How.EATS;
            p.left = p.eat;
            p.waitsNow = 0;
            kitchen.pot--;
            kitchen.eaten++;
        }
    }

    private boolean isSeat(int seat) {
        return seat >= 0 && seat < kitchen.seats.size();
    }

    private int leftOf(int seat) {
        int seats = kitchen.seats.size();
        return (seat + seats - 1) % seats;
    }

    private int holderOf(int ladle) {
        int right = (ladle + 1) % kitchen.seats.size();
        if (kitchen.seats.get(ladle).hasRight) {
            return ladle;
        }
        return kitchen.seats.get(right).hasLeft ? right : -1;
    }

    private int held() {
        int held = 0;
        for (Philosopher p : kitchen.seats) {
            held += (p.hasLeft ? 1 : 0) + (p.hasRight ? 1 : 0);
        }
        return held;
    }

    private int leaves() {
        int leaves = 0;
        for (Philosopher p : kitchen.seats) {
            leaves += p.hasLeave ? 1 : 0;
        }
        return leaves;
    }

    private boolean waiterLets() {
        return kitchen.waiter == 0 || leaves() < kitchen.waiter;
    }

    private int awaited(int k) {
        Philosopher p = kitchen.seats.get(k);
        if (p.how == How.WAITS) {
            return holderOf(p.takesRightFirst ? k : leftOf(k));
        }
        return p.how == How.HOLDS ? holderOf(p.hasLeft ? k : leftOf(k)) : -1;
    }

    int seatOf(int seat, int what) {
        if (!isSeat(seat)) {
            throw new IndexOutOfBoundsException();
        }
        Philosopher p = kitchen.seats.get(seat);
        int left = p.how == How.THINKS || p.how == How.EATS ? p.left : 0;
        int[] numbers = {p.takesRightFirst ? 1 : 0, p.think, p.eat, p.how.ordinal(), left, p.meals, p.waited, p.waitsNow,
            p.longest, p.hasLeave ? 1 : 0};
        if (isOutside(what, 0, 9)) {
            throw new IllegalArgumentException();
        }
        return numbers[what];
    }

    int ladle(int seat, boolean isFirst) {
        if (!isSeat(seat)) {
            throw new IndexOutOfBoundsException();
        }
        boolean isRight = kitchen.seats.get(seat).takesRightFirst ? isFirst : !isFirst;
        return isRight ? seat : leftOf(seat);
    }

    int holder(int ladle) {
        if (!isSeat(ladle)) {
            throw new IndexOutOfBoundsException();
        }
        return holderOf(ladle);
    }

    int waitsFor(int seat) {
        if (!isSeat(seat)) {
            throw new IndexOutOfBoundsException();
        }
        if (awaited(seat) < 0) {
            throw new NoSuchElementException();
        }
        return awaited(seat);
    }

    int asking(int place) {
        if (isOutside(place, 0, kitchen.queue.size() - 1)) {
            throw new NoSuchElementException();
        }
        return kitchen.seats.indexOf(kitchen.queue.get(place));
    }

    private static int bits(Set<Integer> seats) {
        int bits = 0;
        for (int seat : seats) {
            bits += (int) Math.pow(2, seat);
        }
        return bits;
    }

    int eaters() {
        Set<Integer> eaters = new TreeSet<>();
        for (int k = 0; k < kitchen.seats.size(); k++) {
            if (kitchen.seats.get(k).how == How.EATS) {
                eaters.add(k);
            }
        }
        return bits(eaters);
    }

    /** The seats for which a seat waits, and for which these wait. */
    private Set<Integer> reachedFrom(int seat) {
        Set<Integer> reached = new LinkedHashSet<>();
        int next = awaited(seat);
        while (next >= 0 && reached.add(next)) {
            next = awaited(next);
        }
        return reached;
    }

    private Set<Integer> ringSeats() {
        Set<Integer> ring = new TreeSet<>();
        for (int k = 0; k < kitchen.seats.size(); k++) {
            if (reachedFrom(k).contains(k)) {
                ring.add(k);
            }
        }
        return ring;
    }

    int ring() {
        return bits(ringSeats());
    }

    int stuck() {
        Set<Integer> ring = ringSeats();
        Set<Integer> stuck = new TreeSet<>(ring);
        for (int k = 0; k < kitchen.seats.size(); k++) {
            Set<Integer> reached = reachedFrom(k);
            reached.retainAll(ring);
            if (!reached.isEmpty()) {
                stuck.add(k);
            }
        }
        boolean areAllStuck = true;
        for (int k = 0; k < kitchen.seats.size(); k++) {
            areAllStuck &= !kitchen.seats.get(k).hasLeave || stuck.contains(k);
        }
        if (areAllStuck && !waiterLets()) {
            for (Philosopher p : kitchen.queue) {
                stuck.add(kitchen.seats.indexOf(p));
            }
        }
        return bits(stuck);
    }

    int stuckAgain() {
        Set<Integer> remaining = new TreeSet<>();
        for (int k = 0; k < kitchen.seats.size(); k++) {
            remaining.add(k);
        }
        boolean isLeftOut = true;
        while (isLeftOut) {
            isLeftOut = false;
            for (int k : new ArrayList<>(remaining)) {
                isLeftOut |= canGoOn(k, remaining) && remaining.remove(k);
            }
        }
        return bits(remaining);
    }

    private boolean canGoOn(int k, Set<Integer> remaining) {
        switch (kitchen.seats.get(k).how) {
            case ASKS:
                boolean isOneLeftOut = false;
                for (int other = 0; other < kitchen.seats.size(); other++) {
                    isOneLeftOut |= kitchen.seats.get(other).hasLeave && !remaining.contains(other);
                }
                return isOneLeftOut || waiterLets();
            case WAITS:
            case HOLDS:
                return awaited(k) < 0 || !remaining.contains(awaited(k));
            default:
                return true;
        }
    }

    boolean isSure() {
        Set<Boolean> manners = new LinkedHashSet<>();
        for (Philosopher p : kitchen.seats) {
            manners.add(p.takesRightFirst);
        }
        int seats = kitchen.seats.size();
        int mostWithLeave = kitchen.waiter == 0 ? 8 : kitchen.waiter;
        return seats >= 2 && (manners.size() == 2 || mostWithLeave < seats);
    }

    int mealsIn(int ticks) {
        if (isOutside(ticks, 0, 99)) {
            throw new IllegalArgumentException();
        }
        if (kitchen.seats.size() < 2) {
            return 0;
        }
        Kitchen now = kitchen;
        kitchen = now.copy();
        int meals = 0;
        for (int k = 0; k < ticks; k++) {
            meals += tick();
        }
        kitchen = now;
        return meals;
    }

    int stuckIn() {
        Kitchen now = kitchen;
        kitchen = now.copy();
        try {
            for (int k = 0; k <= 99 && now.seats.size() >= 2; k++) {
                if (stuckAgain() != 0) {
                    return k;
                }
                tick();
            }
            throw new NoSuchElementException();
        } finally {
            kitchen = now;
        }
    }

    int hungriest(int place) {
        List<Philosopher> order = new ArrayList<>(kitchen.seats);
        order.sort((one, other) -> one.meals != other.meals ? one.meals - other.meals : other.waited - one.waited);
        if (isOutside(place, 0, order.size() - 1)) {
            throw new NoSuchElementException();
        }
        return kitchen.seats.indexOf(order.get(place));
    }

    int rounds() {
        int fewest = Integer.MAX_VALUE;
        for (Philosopher p : kitchen.seats) {
            fewest = Math.min(fewest, p.meals);
        }
        return kitchen.seats.isEmpty() ? 0 : fewest;
    }

    boolean areNeighbours(int one, int other) {
        if (!isSeat(one) || !isSeat(other)) {
            throw new IndexOutOfBoundsException();
        }
        Set<Integer> common = new TreeSet<>(List.of(ladle(one, true)));
        common.add(ladle(one, false));
        Set<Integer> others = new TreeSet<>(List.of(ladle(other, true)));
        others.add(ladle(other, false));
        common.retainAll(others);
        return one != other && !common.isEmpty();
    }

    int append(char character) {
        if (buffer.length() == 60) {
            throw new IllegalStateException();
        }
        return buffer.append(character).length();
    }

    int commands() {
        String text = buffer.toString();
        buffer.setLength(0);
        fault = faultOf(text);
        if (fault >= 0) {
            throw new IllegalArgumentException();
        }
        String[] parts = text.split(";");
        Kitchen old = kitchen.copy();
        for (int k = 0; k < parts.length; k++) {
            try {
                carryOut(parts[k]);
            } catch (Refused refused) {
                kitchen = old;
                why = new int[] {refused.reason, refused.detail, k};
                throw new UnsupportedOperationException();
            }
        }
        remember(old);
        return parts.length;
    }

    private static int faultOf(String text) {
        for (int length = 1; length <= text.length(); length++) {
            Matcher matcher = TEXT.matcher(text.substring(0, length));
            if (!matcher.matches() && !matcher.hitEnd()) {
                return length - 1;
            }
        }
        return TEXT.matcher(text).matches() ? -1 : text.length();
    }

    private int carryOut(String command) {
        String rest = command.substring(1);
        switch (command.charAt(0)) {
            case '+': return doJoin(rest.charAt(0) == 'r' ? 1 : 0, digit(rest, 1), digit(rest, 2));
            case '-': return doLeave();
            case 'm': return doManner(digit(rest, 0), rest.charAt(1) == 'r' ? 1 : 0);
            case 'k': return doClocks(digit(rest, 0), digit(rest, 1), digit(rest, 2));
            case 'w': return doWaiter(Integer.parseInt(rest));
            case 'p': return doBring(Integer.parseInt(rest));
            case 'd': return doTake(Integer.parseInt(rest));
            default: return doPass(Integer.parseInt(rest));
        }
    }

    private static int digit(String text, int index) {
        return Integer.parseInt(text.substring(index, index + 1));
    }

    int faultPosition() {
        return fault;
    }

    int reason(int what) {
        if (isOutside(what, 0, 2)) {
            throw new IllegalArgumentException();
        }
        if (why == null) {
            throw new NoSuchElementException();
        }
        return why[what];
    }

    int line() {
        List<String> parts = new ArrayList<>();
        for (int k = 0; k < kitchen.seats.size(); k++) {
            Philosopher p = kitchen.seats.get(k);
            String how = List.of(".", "?", "_", "1", "2").get(p.how.ordinal());
            parts.add(k + (p.takesRightFirst ? "r" : "l") + how + ((stuck() & 1 << k) != 0 ? "!" : ""));
        }
        written = String.join(" ", parts);
        return written.length();
    }

    char character(int index) {
        if (isOutside(index, 0, written.length() - 1)) {
            throw new IndexOutOfBoundsException();
        }
        return written.charAt(index);
    }

    double meanWait() {
        double waits = 0;
        double meals = 0;
        for (Philosopher p : kitchen.seats) {
            waits += p.waited;
            meals += p.meals;
        }
        if (meals == 0) {
            throw new ArithmeticException();
        }
        return waits / meals;
    }

    float fairness() {
        int most = 0;
        for (Philosopher p : kitchen.seats) {
            most = Math.max(most, p.meals);
        }
        if (most == 0) {
            throw new ArithmeticException();
        }
        return (float) rounds() / most;
    }

    int account(int what) {
        int meals = 0;
        for (Philosopher p : kitchen.seats) {
            meals += p.meals;
        }
        int[] accounts = {kitchen.tick, kitchen.seats.size(), kitchen.pot, kitchen.waiter, meals, kitchen.eaten, held(),
            leaves(), kitchen.queue.size(), kitchen.taken, earlier.size(), buffer.length()};
        if (isOutside(what, 0, 11)) {
            throw new IllegalArgumentException();
        }
        return accounts[what];
    }

    int undo() {
        if (earlier.isEmpty()) {
            throw new IllegalStateException();
        }
        kitchen = earlier.removeLast();
        return earlier.size();
    }

    int save() {
        snapshot = kitchen.copy();
        return kitchen.seats.size();
    }

    int restore() {
        if (snapshot == null) {
            throw new IllegalStateException();
        }
        kitchen = snapshot.copy();
        earlier.clear();
        return kitchen.seats.size();
    }
}
