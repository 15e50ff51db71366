import java.util.ArrayList;
import java.util.List;
import java.util.Set;
import java.util.TreeSet;
import java.util.function.Function;

/**
 * A call that throws leaves the state unchanged: each such call is made on one of two objects with the same past, and
 * all that can be seen of both must be the same, also when what they keep for undo, restore and commands is used.
 */
public final class UnchangedTest {
    private interface Setup {
        void on(SoupTable table);
    }

    private static final class Throwing {
        final String name;
        final Setup call;

        Throwing(String name, Setup call) {
            this.name = name;
            this.call = call;
        }
    }

    private static final int[] WRONG = {Integer.MIN_VALUE, -1, 4, 100, Integer.MAX_VALUE};

    public static void main(String[] args) {
        List<Throwing> calls = calls();
        Set<String> names = new TreeSet<>();
        for (Setup setup : setups()) {
            appendToFull(setup);
            for (Throwing throwing : calls) {
                if (throwsOn(setup, throwing)) {
                    names.add(throwing.name);
                }
            }
        }
        Script.same("the calls that threw", String.join(" ", names), "account areNeighbours asking bring character clocks"
            + " commands:fault commands:refused fairness holder hungriest join ladle leave manner mealsIn meanWait pass reason"
            + " restore seatOf stuckIn take undo waiter waitsFor");
        Script.end();
    }

    private static List<Setup> setups() {
        List<Setup> setups = new ArrayList<>();
        setups.add(table -> { });
        setups.add(table -> table.join(1, 2, 3));
        setups.add(table -> say(table, "+l11;+r23"));
        setups.add(table -> stuckTwo(table));
        setups.add(table -> {
            stuckTwo(table);
            refuse(() -> table.take(7));
            table.save();
            table.line();
            table.take(1);
            table.bring(7);
        });
        setups.add(table -> {
            say(table, "+l19;+l19;+l19;w2;t1");
            table.save();
            for (int k = 0; k < 9; k++) {
                table.bring(1);
            }
            table.line();
            refuse(() -> say(table, "p1;d0"));
            refuse(() -> say(table, "p1;t1x"));
        });
        return setups;
    }

    private static void stuckTwo(SoupTable table) {
        say(table, "+l11;+l11");
        table.pass(22);
    }

    private static List<Throwing> calls() {
        List<Throwing> calls = new ArrayList<>();
        for (int wrong : WRONG) {
            changes(calls, wrong);
            numbers(calls, wrong);
        }
        calls.add(new Throwing("join", table -> table.join(0, 1, 1)));
        calls.add(new Throwing("leave", table -> table.leave()));
        calls.add(new Throwing("manner", table -> table.manner(1, table.seatOf(1, 0))));
        calls.add(new Throwing("waiter", table -> table.waiter(table.account(3))));
        calls.add(new Throwing("bring", table -> table.bring(99)));
        calls.add(new Throwing("pass", table -> table.pass(1)));
        calls.add(new Throwing("waitsFor", table -> table.waitsFor(0)));
        calls.add(new Throwing("stuckIn", table -> table.stuckIn()));
        calls.add(new Throwing("meanWait", table -> table.meanWait()));
        calls.add(new Throwing("fairness", table -> table.fairness()));
        calls.add(new Throwing("undo", table -> table.undo()));
        calls.add(new Throwing("restore", table -> table.restore()));
        calls.add(new Throwing("reason", table -> table.reason(0)));
        calls.add(new Throwing("commands:fault", table -> say(table, "p1;+l11;-;x")));
        calls.add(new Throwing("commands:refused", table -> say(table, "w5;p1;p2;t9;k011;p0")));
        return calls;
    }

    private static void changes(List<Throwing> calls, int wrong) {
        calls.add(new Throwing("join", table -> table.join(wrong, 1, 1)));
        calls.add(new Throwing("join", table -> table.join(0, wrong, 0)));
        calls.add(new Throwing("manner", table -> table.manner(wrong, 1)));
        calls.add(new Throwing("manner", table -> table.manner(0, wrong)));
        calls.add(new Throwing("clocks", table -> table.clocks(wrong, 1, 1)));
        calls.add(new Throwing("clocks", table -> table.clocks(0, 5, wrong == 4 ? 0 : wrong)));
        calls.add(new Throwing("waiter", table -> table.waiter(wrong == 4 ? 9 : wrong)));
        calls.add(new Throwing("bring", table -> table.bring(wrong == 4 ? 0 : wrong)));
        calls.add(new Throwing("take", table -> table.take(wrong)));
        calls.add(new Throwing("pass", table -> table.pass(wrong == 4 ? 0 : wrong)));
    }

    private static void numbers(List<Throwing> calls, int wrong) {
        calls.add(new Throwing("seatOf", table -> table.seatOf(wrong, 0)));
        calls.add(new Throwing("seatOf", table -> table.seatOf(0, wrong == 4 ? 10 : wrong)));
        calls.add(new Throwing("ladle", table -> table.ladle(wrong, true)));
        calls.add(new Throwing("holder", table -> table.holder(wrong)));
        calls.add(new Throwing("waitsFor", table -> table.waitsFor(wrong)));
        calls.add(new Throwing("asking", table -> table.asking(wrong)));
        calls.add(new Throwing("mealsIn", table -> table.mealsIn(wrong == 4 ? -4 : wrong)));
        calls.add(new Throwing("hungriest", table -> table.hungriest(wrong)));
        calls.add(new Throwing("areNeighbours", table -> table.areNeighbours(wrong, 0)));
        calls.add(new Throwing("areNeighbours", table -> table.areNeighbours(0, wrong)));
        calls.add(new Throwing("reason", table -> table.reason(wrong == 4 ? 3 : wrong)));
        calls.add(new Throwing("character", table -> table.character(wrong == 4 ? 39 : wrong)));
        calls.add(new Throwing("account", table -> table.account(wrong == 4 ? 12 : wrong)));
    }

    private static void appendToFull(Setup setup) {
        SoupTable touched = new SoupTable();
        SoupTable untouched = new SoupTable();
        for (SoupTable table : new SoupTable[] {touched, untouched}) {
            setup.on(table);
            for (char c : "p1;p1;p1;p1;p1;p1;p1;p1;p1;p1;p1;p1;p1;p1;p1;p1;p1;p1;p1;p10".toCharArray()) {
                table.append(c);
            }
        }
        refuse(() -> touched.append('x'));
        Script.same("the full buffer", touched.commands(), untouched.commands());
        Script.same("append throws", seen(touched, false, false), seen(untouched, false, false));
    }

    private static boolean throwsOn(Setup setup, Throwing throwing) {
        SoupTable touched = new SoupTable();
        setup.on(touched);
        String thrown = "nothing";
        try {
            throwing.call.on(touched);
        } catch (RuntimeException e) {
            thrown = e.getClass().getSimpleName();
        }
        if (thrown.equals("nothing")) {
            return false;
        }
        SoupTable untouched = new SoupTable();
        setup.on(untouched);
        boolean isText = throwing.name.startsWith("commands");
        boolean isRefused = thrown.equals("UnsupportedOperationException");
        Script.same(throwing.name + " throws " + thrown, seen(touched, isRefused, isText), seen(untouched, isRefused, isText));
        return true;
    }

    /** What is kept for later is seen last, for that changes the table. */
    private static String seen(SoupTable table, boolean isWithoutReason, boolean isWithoutFault) {
        StringBuilder seen = new StringBuilder();
        seen.append(isWithoutFault ? "" : tried(table, t -> t.faultPosition()));
        for (int k = 0; k < 3; k++) {
            int what = k;
            seen.append(isWithoutReason ? "" : tried(table, t -> t.reason(what)));
        }
        for (int k = 0; k < 12; k++) {
            int index = k;
            seen.append(tried(table, t -> t.character(index)));
        }
        seen.append(seenTable(table));
        say(table, "p1;w8");
        while (table.account(10) > 0) {
            table.undo();
            seen.append(tried(table, t -> t.account(2))).append(tried(table, t -> t.account(3))).append(line(table));
        }
        seen.append(seenTable(table));
        return seen.append(tried(table, t -> t.restore())).append(seenTable(table)).toString();
    }

    private static String seenTable(SoupTable table) {
        StringBuilder seen = new StringBuilder(line(table));
        for (int k = 0; k < 12; k++) {
            int what = k;
            seen.append(tried(table, t -> t.account(what)));
        }
        for (int seat = 0; seat < table.account(1); seat++) {
            for (int k = 0; k < 10; k++) {
                seen.append(table.seatOf(seat, k)).append(' ');
            }
            seen.append(table.holder(seat)).append(' ').append(table.ladle(seat, true)).append(' ');
        }
        seen.append(tried(table, t -> t.asking(0))).append(tried(table, t -> t.stuckIn())).append(tried(table, t -> t.mealsIn(30)));
        return seen.append(table.eaters()).append(' ').append(table.stuck()).toString();
    }

    private static String line(SoupTable table) {
        StringBuilder line = new StringBuilder(" ");
        for (int k = 0, length = table.line(); k < length; k++) {
            line.append(table.character(k));
        }
        return line.append(' ').toString();
    }

    private static String tried(SoupTable table, Function<SoupTable, Object> call) {
        try {
            return call.apply(table) + " ";
        } catch (RuntimeException e) {
            return e.getClass().getSimpleName() + " ";
        }
    }

    private static void say(SoupTable table, String text) {
        for (char c : text.toCharArray()) {
            table.append(c);
        }
        table.commands();
    }

    private static void refuse(Runnable call) {
        try {
            call.run();
        } catch (RuntimeException e) {
            return;
        }
        throw new AssertionError("it was not refused");
    }
}
