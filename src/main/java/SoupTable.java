import java.util.NoSuchElementException;

/** A soup kitchen: philosophers around a table, with a ladle between any two of them. */
public final class SoupTable {
    private static final int MOST_SEATS = 8;
    private static final int LEAST_SEATS_FOR_TICKS = 2;
    private static final int MOST_CLOCK_TICKS = 9;
    private static final int MOST_TICKS = 99;
    private static final int MOST_BOWLS = 99;
    private static final int BOWLS_AT_FIRST = 20;
    private static final int MOST_CHANGES = 8;
    private static final int MOST_SIGNS = 60;
    private static final int MOST_LETTERS = 5 * MOST_SEATS;
    private static final int MOST_NUMBERS = 3;

    private static final int NONE = -1;
    // Every answer of a change is 0 or more, so that this one is free to tell a refusal.
    private static final int REFUSED = -1;
    private static final int ALL = 0;

    private static final int LEFT_FIRST = 0;
    private static final int RIGHT_FIRST = 1;

    private static final int THINKS = 0;
    private static final int ASKS = 1;
    private static final int WAITS = 2;
    private static final int HOLDS = 3;
    private static final int EATS = 4;
    // Leave is given before the first ladle is waited for, and lasts until the meal is had.
    private static final int FIRST_WITH_LEAVE = WAITS;

    private static final int OUT_OF_RANGE = 1;
    private static final int TOO_MANY = 2;
    private static final int NO_SUCH_SEAT = 3;
    private static final int LADLES_HELD = 4;
    private static final int TOO_FEW_SEATS = 5;
    private static final int NOT_ONE_LADLE = 6;
    private static final int SO_ALREADY = 7;

    // The kinds of commands are the places of their signs here.
    private static final String SIGNS = "+-mkwpdt";
    private static final int JOIN = 0;
    private static final int LEAVE = 1;
    private static final int MANNER = 2;
    private static final int CLOCKS = 3;
    private static final int WAITER = 4;
    private static final int BRING = 5;
    private static final int TAKE = 6;
    private static final int PASS = 7;

    private static final String LETTERS_OF_HOW = ".?_12";

    private final Table table = new Table();
    private final Table ahead = new Table();
    private final Table saved = new Table();
    private boolean isSaved;
    private final Table[] past = new Table[MOST_CHANGES];
    private int changes;
    private Table before = new Table();
    private final Text text = new Text();
    private int fault = NONE;
    private final Refusal refusal = new Refusal();
    private final char[] letters = new char[MOST_LETTERS];
    private int letterCount;

    public SoupTable() {
        for (int k = 0; k < MOST_CHANGES; k++) {
            past[k] = new Table();
        }
    }

    public int join(int manner, int think, int eat) throws UnsupportedOperationException {
        before.copyFrom(table);
        return kept(table.addSeat(manner, think, eat, refusal));
    }

    public int leave() throws UnsupportedOperationException {
        before.copyFrom(table);
        return kept(table.removeSeat(refusal));
    }

    public int manner(int seat, int manner) throws UnsupportedOperationException {
        before.copyFrom(table);
        return kept(table.setManner(seat, manner, refusal));
    }

    public int clocks(int seat, int think, int eat) throws UnsupportedOperationException {
        before.copyFrom(table);
        return kept(table.setClocks(seat, think, eat, refusal));
    }

    public int waiter(int number) throws UnsupportedOperationException {
        before.copyFrom(table);
        return kept(table.setWaiter(number, refusal));
    }

    public int bring(int bowls) throws UnsupportedOperationException {
        before.copyFrom(table);
        return kept(table.addBowls(bowls, refusal));
    }

    public int take(int seat) throws UnsupportedOperationException {
        before.copyFrom(table);
        return kept(table.takeAway(seat, refusal));
    }

    public int pass(int ticks) throws UnsupportedOperationException {
        before.copyFrom(table);
        return kept(table.passTicks(ticks, refusal));
    }

    public int seatOf(int seat, int what) throws IndexOutOfBoundsException, IllegalArgumentException {
        if (!table.hasSeat(seat)) {
            throw new IndexOutOfBoundsException("no such seat");
        }
        if (what < 0 || what > 9) {
            throw new IllegalArgumentException("no such number of a seat");
        }
        return table.seats[seat].number(what);
    }

    public int ladle(int seat, boolean isFirst) throws IndexOutOfBoundsException {
        if (!table.hasSeat(seat)) {
            throw new IndexOutOfBoundsException("no such seat");
        }
        return table.ladleOf(seat, isFirst);
    }

    public int holder(int ladle) throws IndexOutOfBoundsException {
        // There are as many ladles as seats, with the same numbers.
        if (!table.hasSeat(ladle)) {
            throw new IndexOutOfBoundsException("no such ladle");
        }
        return table.holders[ladle];
    }

    public int waitsFor(int seat) throws IndexOutOfBoundsException, NoSuchElementException {
        if (!table.hasSeat(seat)) {
            throw new IndexOutOfBoundsException("no such seat");
        }
        int other = table.awaitedSeat(seat);
        if (other == NONE) {
            throw new NoSuchElementException("the seat waits for none");
        }
        return other;
    }

    public int asking(int place) throws NoSuchElementException {
        int seat = table.askerAt(place);
        if (seat == NONE) {
            throw new NoSuchElementException("no such place among those that ask");
        }
        return seat;
    }

    public int eaters() {
        int set = 0;
        for (int k = 0; k < table.count; k++) {
            if (table.seats[k].how == EATS) {
                set |= 1 << k;
            }
        }
        return set;
    }

    public int ring() {
        return Waiting.ringOf(table);
    }

    public int stuck() {
        return Waiting.stuckOf(table);
    }

    public int stuckAgain() {
        return Waiting.remainingOf(table);
    }

    public boolean isSure() {
        boolean isHeldBack = table.waiterNumber != ALL && table.waiterNumber < table.count;
        return table.canTick() && (table.hasBothManners() || isHeldBack);
    }

    public int mealsIn(int ticks) throws IllegalArgumentException {
        if (ticks < 0 || ticks > MOST_TICKS) {
            throw new IllegalArgumentException("the ticks are out of range");
        }
        ahead.copyFrom(table);
        for (int k = 0; k < ticks && ahead.canTick(); k++) {
            ahead.tick();
        }
        return ahead.mealsOfAll() - table.mealsOfAll();
    }

    public int stuckIn() throws NoSuchElementException {
        ahead.copyFrom(table);
        for (int ticks = 0; ticks <= MOST_TICKS && ahead.canTick(); ticks++) {
            if (Waiting.stuckOf(ahead) != 0) {
                return ticks;
            }
            ahead.tick();
        }
        throw new NoSuchElementException("no seat will be stuck so soon");
    }

    public int hungriest(int place) throws NoSuchElementException {
        int seat = table.hungriestAt(place);
        if (seat == NONE) {
            throw new NoSuchElementException("no such place");
        }
        return seat;
    }

    public int rounds() {
        return table.fewestMeals();
    }

    public boolean areNeighbours(int one, int other) throws IndexOutOfBoundsException {
        if (!table.hasSeat(one) || !table.hasSeat(other)) {
            throw new IndexOutOfBoundsException("no such seat");
        }
        return one != other && (table.isNext(one, other) || table.isNext(other, one));
    }

    public int append(char character) throws IllegalStateException {
        if (text.length >= MOST_SIGNS) {
            throw new IllegalStateException("the text buffer is full");
        }
        text.signs[text.length] = character;
        text.length++;
        return text.length;
    }

    public int commands() throws IllegalArgumentException, UnsupportedOperationException {
        fault = text.findFault();
        if (fault != NONE) {
            text.length = 0;
            throw new IllegalArgumentException("the text has a fault");
        }
        before.copyFrom(table);
        int done = 0;
        boolean isRefused = false;
        text.place = 0;
        while (done < MOST_SIGNS && !isRefused && text.readsCommand()) {
            isRefused = table.obey(text, refusal) == REFUSED;
            text.skipSemicolon();
            done++;
        }
        text.length = 0;
        if (isRefused) {
            refusal.command = done - 1;
            table.copyFrom(before);
            throw new UnsupportedOperationException("a command is refused");
        }
        keepBefore();
        return done;
    }

    public int faultPosition() {
        return fault;
    }

    public int reason(int what) throws IllegalArgumentException, NoSuchElementException {
        if (what < 0 || what > 2) {
            throw new IllegalArgumentException("no such number of a reason");
        }
        if (refusal.reason == 0) {
            throw new NoSuchElementException("nothing was refused");
        }
        if (what == 0) {
            return refusal.reason;
        }
        return what == 1 ? refusal.detail : refusal.command;
    }

    public int line() {
        int stuckSeats = Waiting.stuckOf(table);
        letterCount = 0;
        for (int k = 0; k < table.count; k++) {
            if (k > 0) {
                write(' ');
            }
            writeSeat(k, (stuckSeats >> k & 1) == 1);
        }
        return letterCount;
    }

    public char character(int index) throws IndexOutOfBoundsException {
        if (index < 0 || index >= letterCount) {
            throw new IndexOutOfBoundsException("no such character");
        }
        return letters[index];
    }

    public double meanWait() throws ArithmeticException {
        int meals = table.mealsOfAll();
        if (meals == 0) {
            throw new ArithmeticException("no meal was had");
        }
        return (double) table.waitsOfAll() / (double) meals;
    }

    public float fairness() throws ArithmeticException {
        int most = table.mostMeals();
        if (most == 0) {
            throw new ArithmeticException("no seat has had a meal");
        }
        return (float) table.fewestMeals() / (float) most;
    }

    public int account(int what) throws IllegalArgumentException {
        switch (what) {
            case 0: return table.ticks;
            case 1: return table.count;
            case 2: return table.bowls;
            case 3: return table.waiterNumber;
            case 4: return table.mealsOfAll();
            case 5: return table.bowlsTaken;
            case 6: return table.heldLadles();
            case 7: return Integer.bitCount(table.setWithLeave());
            case 8: return table.askers();
            case 9: return table.ladlesTaken;
            case 10: return changes;
            case 11: return text.length;
            default: throw new IllegalArgumentException("no such account");
        }
    }

    public int undo() throws IllegalStateException {
        if (changes == 0) {
            throw new IllegalStateException("nothing can be undone");
        }
        changes--;
        table.copyFrom(past[changes]);
        return changes;
    }

    public int save() {
        saved.copyFrom(table);
        isSaved = true;
        return table.count;
    }

    public int restore() throws IllegalStateException {
        if (!isSaved) {
            throw new IllegalStateException("there is no snapshot");
        }
        table.copyFrom(saved);
        changes = 0;
        return table.count;
    }

    private int kept(int answer) {
        if (answer == REFUSED) {
            refusal.command = 0;
            throw new UnsupportedOperationException("the change is refused");
        }
        keepBefore();
        return answer;
    }

    /** Swaps tables instead of making new ones, so that a run makes no more of them than a new object does. */
    private void keepBefore() {
        if (changes == MOST_CHANGES) {
            Table oldest = past[0];
            for (int k = 1; k < MOST_CHANGES; k++) {
                past[k - 1] = past[k];
            }
            past[MOST_CHANGES - 1] = oldest;
            changes--;
        }
        Table spare = past[changes];
        past[changes] = before;
        before = spare;
        changes++;
    }

    private void writeSeat(int k, boolean isStuck) {
        Seat seat = table.seats[k];
        write((char) ('0' + k));
        write(seat.manner == LEFT_FIRST ? 'l' : 'r');
        write(LETTERS_OF_HOW.charAt(seat.how));
        if (isStuck) {
            write('!');
        }
    }

    private void write(char letter) {
        if (letterCount < MOST_LETTERS) {
            letters[letterCount] = letter;
            letterCount++;
        }
    }

    /** Why something was refused at last; the reason is 0 as long as nothing was. */
    private static final class Refusal {
        int reason;
        int detail;
        int command;

        int refuse(int newReason, int newDetail) {
            reason = newReason;
            detail = newDetail;
            return REFUSED;
        }
    }

    private static final class Seat {
        int manner;
        int think;
        int eat;
        int how;
        int left;
        int meals;
        int waited;
        int waitedNow;
        int waitedMost;

        void begin(int newManner, int newThink, int newEat) {
            manner = newManner;
            think = newThink;
            eat = newEat;
            meals = 0;
            waited = 0;
            waitedNow = 0;
            waitedMost = 0;
            beginToThink();
        }

        void beginToThink() {
            how = THINKS;
            left = think;
        }

        void beginToEat() {
            how = EATS;
            left = eat;
            waitedNow = 0;
        }

        void waitIfHungry() {
            if (how == THINKS || how == EATS) {
                return;
            }
            waited++;
            waitedNow++;
            waitedMost = Math.max(waitedMost, waitedNow);
        }

        boolean isHungrierThan(Seat other) {
            return meals < other.meals || meals == other.meals && waited > other.waited;
        }

        int number(int what) {
            switch (what) {
                case 0: return manner;
                case 1: return think;
                case 2: return eat;
                case 3: return how;
                case 4: return left;
                case 5: return meals;
                case 6: return waited;
                case 7: return waitedNow;
                case 8: return waitedMost;
                default: return how >= FIRST_WITH_LEAVE ? 1 : 0;
            }
        }

        void copyFrom(Seat other) {
            manner = other.manner;
            think = other.think;
            eat = other.eat;
            how = other.how;
            left = other.left;
            meals = other.meals;
            waited = other.waited;
            waitedNow = other.waitedNow;
            waitedMost = other.waitedMost;
        }
    }

    /** All that can be undone. */
    private static final class Table {
        final Seat[] seats = new Seat[MOST_SEATS];
        final int[] holders = new int[MOST_SEATS];
        int count;
        int waiterNumber = ALL;
        int bowls = BOWLS_AT_FIRST;
        int ticks;
        int bowlsTaken;
        int ladlesTaken;

        Table() {
            for (int k = 0; k < MOST_SEATS; k++) {
                seats[k] = new Seat();
                holders[k] = NONE;
            }
        }

        void copyFrom(Table other) {
            for (int k = 0; k < MOST_SEATS; k++) {
                seats[k].copyFrom(other.seats[k]);
                holders[k] = other.holders[k];
            }
            count = other.count;
            waiterNumber = other.waiterNumber;
            bowls = other.bowls;
            ticks = other.ticks;
            bowlsTaken = other.bowlsTaken;
            ladlesTaken = other.ladlesTaken;
        }

        /** As of all the changes: if it is refused, nothing but the refusal is written. */
        int obey(Text text, Refusal refusal) {
            int one = text.numbers[0];
            int two = text.numbers[1];
            int three = text.numbers[2];
            switch (text.kind) {
                case JOIN: return addSeat(one, two, three, refusal);
                case LEAVE: return removeSeat(refusal);
                case MANNER: return setManner(one, two, refusal);
                case CLOCKS: return setClocks(one, two, three, refusal);
                case WAITER: return setWaiter(one, refusal);
                case BRING: return addBowls(one, refusal);
                case TAKE: return takeAway(one, refusal);
                default: return passTicks(one, refusal);
            }
        }

        int addSeat(int manner, int think, int eat, Refusal refusal) {
            if (!isManner(manner) || !isClock(think) || !isClock(eat)) {
                return refusal.refuse(OUT_OF_RANGE, 0);
            }
            if (count >= MOST_SEATS) {
                return refusal.refuse(TOO_MANY, MOST_SEATS);
            }
            if (heldLadles() > 0) {
                return refusal.refuse(LADLES_HELD, heldLadles());
            }
            seats[count].begin(manner, think, eat);
            count++;
            return count - 1;
        }

        int removeSeat(Refusal refusal) {
            if (count == 0) {
                return refusal.refuse(TOO_FEW_SEATS, 0);
            }
            if (heldLadles() > 0) {
                return refusal.refuse(LADLES_HELD, heldLadles());
            }
            count--;
            return count;
        }

        int setManner(int seat, int manner, Refusal refusal) {
            if (!hasSeat(seat)) {
                return refusal.refuse(NO_SUCH_SEAT, seat);
            }
            if (!isManner(manner)) {
                return refusal.refuse(OUT_OF_RANGE, 0);
            }
            if (seats[seat].manner == manner) {
                return refusal.refuse(SO_ALREADY, 0);
            }
            seats[seat].manner = manner;
            return seats[seat].how;
        }

        int setClocks(int seat, int think, int eat, Refusal refusal) {
            if (!hasSeat(seat)) {
                return refusal.refuse(NO_SUCH_SEAT, seat);
            }
            if (!isClock(think) || !isClock(eat)) {
                return refusal.refuse(OUT_OF_RANGE, 0);
            }
            int earlier = 10 * seats[seat].think + seats[seat].eat;
            seats[seat].think = think;
            seats[seat].eat = eat;
            return earlier;
        }

        int setWaiter(int number, Refusal refusal) {
            if (number < 0 || number > MOST_SEATS) {
                return refusal.refuse(OUT_OF_RANGE, 0);
            }
            if (number == waiterNumber) {
                return refusal.refuse(SO_ALREADY, 0);
            }
            int earlier = waiterNumber;
            waiterNumber = number;
            return earlier;
        }

        int addBowls(int more, Refusal refusal) {
            if (more < 1 || more > MOST_BOWLS) {
                return refusal.refuse(OUT_OF_RANGE, 0);
            }
            if (bowls + more > MOST_BOWLS) {
                return refusal.refuse(TOO_MANY, MOST_BOWLS);
            }
            bowls += more;
            return bowls;
        }

        int takeAway(int seat, Refusal refusal) {
            if (!hasSeat(seat)) {
                return refusal.refuse(NO_SUCH_SEAT, seat);
            }
            if (seats[seat].how != HOLDS) {
                return refusal.refuse(NOT_ONE_LADLE, seats[seat].how);
            }
            int first = ladleOf(seat, true);
            int ladle = holders[first] == seat ? first : ladleOf(seat, false);
            holders[ladle] = NONE;
            seats[seat].how = WAITS;
            ladlesTaken++;
            return ladle;
        }

        int passTicks(int number, Refusal refusal) {
            if (number < 1 || number > MOST_TICKS) {
                return refusal.refuse(OUT_OF_RANGE, 0);
            }
            if (!canTick()) {
                return refusal.refuse(TOO_FEW_SEATS, count);
            }
            int mealsBefore = mealsOfAll();
            for (int k = 0; k < number; k++) {
                tick();
            }
            return mealsOfAll() - mealsBefore;
        }

        void tick() {
            ticks++;
            for (int k = 0; k < count; k++) {
                thinkOrEat(k);
            }
            giveLeave();
            for (int k = 0; k < count; k++) {
                takeLadles(k);
            }
            for (int k = 0; k < count; k++) {
                seats[k].waitIfHungry();
            }
        }

        void thinkOrEat(int k) {
            Seat seat = seats[k];
            if (seat.how != THINKS && seat.how != EATS) {
                return;
            }
            seat.left--;
            if (seat.left > 0) {
                return;
            }
            if (seat.how == THINKS) {
                seat.how = ASKS;
                return;
            }
            holders[ladleOf(k, true)] = NONE;
            holders[ladleOf(k, false)] = NONE;
            seat.meals++;
            seat.beginToThink();
        }

        void giveLeave() {
            for (int given = 0; given < MOST_SEATS; given++) {
                int seat = askerAt(0);
                if (seat == NONE || !waiterLetsMore()) {
                    return;
                }
                seats[seat].how = WAITS;
            }
        }

        void takeLadles(int k) {
            Seat seat = seats[k];
            int first = wantedLadle(k);
            if (seat.how == WAITS && isFree(first)) {
                holders[first] = k;
                seat.how = HOLDS;
            }
            int second = wantedLadle(k);
            if (seat.how == HOLDS && isFree(second) && bowls > 0) {
                holders[second] = k;
                bowls--;
                bowlsTaken++;
                seat.beginToEat();
            }
        }

        boolean hasSeat(int seat) {
            return seat >= 0 && seat < count;
        }

        boolean canTick() {
            return count >= LEAST_SEATS_FOR_TICKS;
        }

        boolean isNext(int seat, int other) {
            return other == (seat == count - 1 ? 0 : seat + 1);
        }

        int ladleOf(int seat, boolean isFirst) {
            boolean isRight = isFirst == (seats[seat].manner == RIGHT_FIRST);
            if (isRight) {
                return seat;
            }
            return seat == 0 ? count - 1 : seat - 1;
        }

        boolean isFree(int ladle) {
            return hasSeat(ladle) && holders[ladle] == NONE;
        }

        /** By the ladle that is held, for the manner may have changed since it was taken. */
        int wantedLadle(int seat) {
            int first = ladleOf(seat, true);
            if (seats[seat].how == WAITS) {
                return first;
            }
            if (seats[seat].how != HOLDS) {
                return NONE;
            }
            return holders[first] == seat ? ladleOf(seat, false) : first;
        }

        int awaitedSeat(int seat) {
            if (!hasSeat(seat)) {
                return NONE;
            }
            int ladle = wantedLadle(seat);
            return hasSeat(ladle) ? holders[ladle] : NONE;
        }

        boolean waiterLetsMore() {
            return waiterNumber == ALL || Integer.bitCount(setWithLeave()) < waiterNumber;
        }

        int askerAt(int place) {
            for (int k = 0; k < count; k++) {
                if (seats[k].how == ASKS && askersBefore(k) == place) {
                    return k;
                }
            }
            return NONE;
        }

        /** Who has waited longer asked earlier, and of those that asked in one tick the lower seat did. */
        int askersBefore(int seat) {
            int before = 0;
            for (int k = 0; k < count; k++) {
                int longer = seats[k].waitedNow - seats[seat].waitedNow;
                if (seats[k].how == ASKS && (longer > 0 || longer == 0 && k < seat)) {
                    before++;
                }
            }
            return before;
        }

        int hungriestAt(int place) {
            for (int k = 0; k < count; k++) {
                if (hungrierThan(k) == place) {
                    return k;
                }
            }
            return NONE;
        }

        int hungrierThan(int seat) {
            int before = 0;
            for (int k = 0; k < count; k++) {
                boolean isLowerAndAsHungry = k < seat && !seats[seat].isHungrierThan(seats[k]);
                if (seats[k].isHungrierThan(seats[seat]) || isLowerAndAsHungry) {
                    before++;
                }
            }
            return before;
        }

        boolean hasBothManners() {
            for (int k = 1; k < count; k++) {
                if (seats[k].manner != seats[0].manner) {
                    return true;
                }
            }
            return false;
        }

        int heldLadles() {
            int held = 0;
            for (int k = 0; k < count; k++) {
                if (holders[k] != NONE) {
                    held++;
                }
            }
            return held;
        }

        int setWithLeave() {
            int set = 0;
            for (int k = 0; k < count; k++) {
                if (seats[k].how >= FIRST_WITH_LEAVE) {
                    set |= 1 << k;
                }
            }
            return set;
        }

        int askers() {
            int number = 0;
            for (int k = 0; k < count; k++) {
                if (seats[k].how == ASKS) {
                    number++;
                }
            }
            return number;
        }

        int mealsOfAll() {
            int meals = 0;
            for (int k = 0; k < count; k++) {
                meals += seats[k].meals;
            }
            return meals;
        }

        int fewestMeals() {
            int fewest = count == 0 ? 0 : seats[0].meals;
            for (int k = 1; k < count; k++) {
                fewest = Math.min(fewest, seats[k].meals);
            }
            return fewest;
        }

        int mostMeals() {
            int most = 0;
            for (int k = 0; k < count; k++) {
                most = Math.max(most, seats[k].meals);
            }
            return most;
        }

        int waitsOfAll() {
            int waits = 0;
            for (int k = 0; k < count; k++) {
                waits += seats[k].waited;
            }
            return waits;
        }

        static boolean isManner(int manner) {
            return manner == LEFT_FIRST || manner == RIGHT_FIRST;
        }

        static boolean isClock(int ticks) {
            return ticks >= 1 && ticks <= MOST_CLOCK_TICKS;
        }
    }

    /** Who waits for whom; sets of seats have the bit k for the seat k. */
    private static final class Waiting {
        static int ringOf(Table table) {
            int set = 0;
            for (int k = 0; k < table.count; k++) {
                if (comesBackTo(table, k)) {
                    set |= 1 << k;
                }
            }
            return set;
        }

        static boolean comesBackTo(Table table, int seat) {
            int next = seat;
            for (int steps = 0; steps < table.count; steps++) {
                next = table.awaitedSeat(next);
                if (next == seat) {
                    return true;
                }
            }
            return false;
        }

        static int stuckOf(Table table) {
            int set = ringOf(table);
            for (int round = 0; round < table.count; round++) {
                set |= waitingForOneIn(table, set);
            }
            int freeWithLeave = table.setWithLeave() & ~set;
            for (int k = 0; k < table.count; k++) {
                if (table.seats[k].how == ASKS && !table.waiterLetsMore() && freeWithLeave == 0) {
                    set |= 1 << k;
                }
            }
            return set;
        }

        static int waitingForOneIn(Table table, int set) {
            int waiting = 0;
            for (int k = 0; k < table.count; k++) {
                int other = table.awaitedSeat(k);
                if (other != NONE && (set >> other & 1) == 1) {
                    waiting |= 1 << k;
                }
            }
            return waiting;
        }

        static int remainingOf(Table table) {
            int remaining = (1 << table.count) - 1;
            // Each round but the last one leaves a seat out, so that there are no more rounds to do than this.
            for (int round = 0; round <= table.count; round++) {
                for (int k = 0; k < table.count; k++) {
                    if (canGoOn(table, k, remaining)) {
                        remaining &= ~(1 << k);
                    }
                }
            }
            return remaining;
        }

        static boolean canGoOn(Table table, int seat, int remaining) {
            int how = table.seats[seat].how;
            if (how == THINKS || how == EATS) {
                return true;
            }
            if (how == ASKS) {
                return table.waiterLetsMore() || (table.setWithLeave() & ~remaining) != 0;
            }
            int other = table.awaitedSeat(seat);
            return other == NONE || (remaining >> other & 1) == 0;
        }
    }

    /** The text buffer, and its reader, which stands at a place of it. */
    private static final class Text {
        final char[] signs = new char[MOST_SIGNS];
        int length;
        int place;
        int kind;
        final int[] numbers = new int[MOST_NUMBERS];

        int findFault() {
            place = 0;
            for (int command = 0; command < MOST_SIGNS; command++) {
                if (!readsCommand()) {
                    return place;
                }
                if (place >= length) {
                    return NONE;
                }
                if (!skipSemicolon()) {
                    return place;
                }
            }
            return place;
        }

        /** Reads the command at the place; if there is none, the place is that of the fault. */
        boolean readsCommand() {
            kind = place < length ? SIGNS.indexOf(signs[place]) : NONE;
            if (kind == NONE) {
                return false;
            }
            place++;
            String shape = shapeOf(kind);
            for (int k = 0; k < shape.length() && k < MOST_NUMBERS; k++) {
                if (!readsNumber(shape.charAt(k), k)) {
                    return false;
                }
            }
            return true;
        }

        /** The numbers of a command in their order: h for a hand, d for a digit, n for one or two digits. */
        static String shapeOf(int kind) {
            switch (kind) {
                case JOIN: return "hdd";
                case LEAVE: return "";
                case MANNER: return "dh";
                case CLOCKS: return "ddd";
                case BRING: return "n";
                case PASS: return "n";
                default: return "d";
            }
        }

        boolean readsNumber(char form, int index) {
            int number = form == 'h' ? handHere() : digitHere();
            if (number == NONE) {
                return false;
            }
            place++;
            int second = form == 'n' ? digitHere() : NONE;
            if (second != NONE) {
                number = 10 * number + second;
                place++;
            }
            numbers[index] = number;
            return true;
        }

        int handHere() {
            if (place < length && signs[place] == 'l') {
                return LEFT_FIRST;
            }
            return place < length && signs[place] == 'r' ? RIGHT_FIRST : NONE;
        }

        int digitHere() {
            boolean isDigit = place < length && signs[place] >= '0' && signs[place] <= '9';
            return isDigit ? signs[place] - '0' : NONE;
        }

        boolean skipSemicolon() {
            boolean isThere = place < length && signs[place] == ';';
            if (isThere) {
                place++;
            }
            return isThere;
        }
    }
}
