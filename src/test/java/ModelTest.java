import java.lang.reflect.InvocationTargetException;
import java.lang.reflect.Method;
import java.util.ArrayList;
import java.util.Comparator;
import java.util.List;
import java.util.Random;

/** Long runs of calls, on the class and on the model; each answer and each exception must be the same. */
public final class ModelTest {
    private static final int RUNS = 4000;
    private static final int CALLS_OF_AN_OBJECT = 512;
    private static final int[] WRONG_NUMBERS = {Integer.MIN_VALUE, -100, -2, -1, 9, 10, 12, 100, Integer.MAX_VALUE};
    private static final List<String> RARE = List.of("leave", "undo", "restore", "save", "commands", "manner");
    private static final String SIGNS = "+-mkwpdt;lr0123456789 x";

    private static final class Call {
        final Method own;
        final Method model;

        Call(Method own, Method model) {
            this.own = own;
            this.model = model;
        }
    }

    private final Random random;
    private final SoupTable table = new SoupTable();
    private final Model model = new Model();
    private final List<String> calls = new ArrayList<>();
    private final int style;

    private ModelTest(int seed) {
        random = new Random(seed);
        style = seed % 4;
    }

    public static void main(String[] args) throws Exception {
        List<Call> face = face();
        for (int seed = 0; seed < RUNS; seed++) {
            String difference = new ModelTest(seed).firstDifference(face);
            if (difference != null) {
                System.out.println("the run " + seed + " differs: " + difference);
                System.exit(1);
            }
        }
        System.out.println(RUNS + " runs are as the model's");
    }

    private static List<Call> face() throws NoSuchMethodException {
        List<Call> face = new ArrayList<>();
        for (Method own : SoupTable.class.getDeclaredMethods()) {
            if (java.lang.reflect.Modifier.isPublic(own.getModifiers())) {
                face.add(new Call(own, Model.class.getDeclaredMethod(own.getName(), own.getParameterTypes())));
            }
        }
        face.sort(Comparator.comparing(call -> call.own.getName()));
        return face;
    }

    private String firstDifference(List<Call> face) throws IllegalAccessException {
        for (int seats = random.nextInt(9); seats > 0; seats--) {
            String difference = called(named(face, "join"), arguments(named(face, "join")));
            if (difference != null) {
                return difference;
            }
        }
        while (calls.size() < CALLS_OF_AN_OBJECT) {
            Call call = face.get(random.nextInt(face.size()));
            String name = call.own.getName();
            if (RARE.contains(name) && random.nextInt(6) > 0) {
                continue;
            }
            String difference = name.equals("append") ? typed(face, call) : called(call, arguments(call));
            if (difference != null) {
                return difference;
            }
        }
        return null;
    }

    private static Call named(List<Call> face, String name) {
        for (Call call : face) {
            if (call.own.getName().equals(name)) {
                return call;
            }
        }
        throw new AssertionError("no method " + name);
    }

    private String typed(List<Call> face, Call append) throws IllegalAccessException {
        for (char sign : text().toCharArray()) {
            String difference = called(append, new Object[] {sign});
            if (difference != null || calls.size() >= CALLS_OF_AN_OBJECT) {
                return difference;
            }
        }
        return random.nextInt(12) == 0 ? null : called(named(face, "commands"), new Object[0]);
    }

    private String called(Call call, Object[] arguments) throws IllegalAccessException {
        Object got = answer(call.own, table, arguments);
        Object due = answer(call.model, model, arguments);
        calls.add(call.own.getName() + List.of(arguments) + " = " + got);
        return got.equals(due) ? null : calls + ", due is " + due;
    }

    private static Object answer(Method method, Object object, Object[] arguments) throws IllegalAccessException {
        method.setAccessible(true);
        try {
            return method.invoke(object, arguments);
        } catch (InvocationTargetException e) {
            return "throws " + e.getCause().getClass().getSimpleName();
        }
    }

    private Object[] arguments(Call call) {
        Class<?>[] types = call.own.getParameterTypes();
        Object[] arguments = new Object[types.length];
        for (int k = 0; k < types.length; k++) {
            arguments[k] = types[k] == boolean.class ? (Object) random.nextBoolean() : number(call.own.getName(), k);
        }
        return arguments;
    }

    private int number(String name, int index) {
        if (random.nextInt(24) == 0) {
            return WRONG_NUMBERS[random.nextInt(WRONG_NUMBERS.length)];
        }
        switch (name) {
            case "pass": return random.nextInt(12) == 0 ? random.nextInt(101) : 1 + random.nextInt(style == 0 ? 20 : 3);
            case "mealsIn": return random.nextInt(101);
            case "bring": return random.nextInt(style == 1 ? 4 : 100);
            case "account": return random.nextInt(13);
            case "reason": return random.nextInt(3);
            case "character": return random.nextInt(40);
            case "waiter": return random.nextInt(style == 2 ? 4 : 9);
            case "join": return index == 0 ? manner() : 1 + random.nextInt(style > 1 ? 3 : 9);
            case "manner": return index == 0 ? random.nextInt(8) : manner();
            case "clocks": return index == 0 ? random.nextInt(8) : random.nextInt(10);
            case "seatOf": return index == 0 ? random.nextInt(8) : random.nextInt(10);
            default: return random.nextInt(8);
        }
    }

    /** Mostly the same manner, for there are no rings without. */
    private int manner() {
        return random.nextInt(20) == 0 ? 1 - style % 2 : style % 2;
    }

    private String text() {
        StringBuilder text = new StringBuilder();
        int commands = 1 + random.nextInt(random.nextInt(9) == 0 ? 16 : 4);
        for (int k = 0; k < commands; k++) {
            text.append(k > 0 ? ";" : "").append(command());
        }
        if (random.nextInt(4) == 0) {
            int place = random.nextInt(text.length() + 1);
            char sign = random.nextInt(20) == 0 ? (char) random.nextInt(65536) : SIGNS.charAt(random.nextInt(SIGNS.length()));
            text.replace(place, Math.min(text.length(), place + random.nextInt(2)), "" + sign);
        }
        return text.toString();
    }

    private String command() {
        int seat = random.nextInt(5);
        String hand = manner() == 1 ? "r" : "l";
        String clocks = "" + (1 + random.nextInt(3)) + random.nextInt(4);
        switch (random.nextInt(9)) {
            case 0:
            case 1: return "+" + hand + clocks;
            case 2: return random.nextInt(6) == 0 ? "-" : "t1";
            case 3: return "m" + seat + hand;
            case 4: return "k" + seat + clocks;
            case 5: return "w" + random.nextInt(5);
            case 6: return "p" + random.nextInt(30);
            case 7: return "d" + seat;
            default: return "t" + (random.nextBoolean() ? "0" : "") + random.nextInt(9);
        }
    }
}
