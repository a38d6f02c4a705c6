import java.lang.reflect.InvocationTargetException;
import java.lang.reflect.Method;
import java.util.ArrayList;
import java.util.Comparator;
import java.util.List;
import java.util.Map;
import java.util.TreeMap;

/** Long runs of calls, made by counting from a seed, on the desk and on the plain desk: all answers must agree. */
public final class RunsTest {
    private static final int RUNS = 400;
    private static final int CALLS = 512;

    /** What stands for each parameter, and how often a method is called beside the others. */
    private static final String[] CALLS_OF = {
        "addMachine 2 kind setup", "addMember 3", "day 1", "addNeed 3 kind kind", "induct 14 member kind",
        "isLive 3 member kind liveDay", "book 40 member machine nextDay start minutes work",
        "await 25 member machine nextDay start minutes work", "check 8 member machine nextDay start minutes work",
        "cancel 16 entry", "stateOf 5 entry", "entries 1", "endDay 4", "minuteAt 6 machine anyDay minute",
        "usedMinutes 2 machine anyDay", "usedByMinutes 2 machine anyDay", "setupMinutes 4 machine anyDay",
        "firstStart 5 machine nextDay minutes work", "firstByMinutes 5 machine nextDay minutes work",
        "waiting 3 machine nextDay", "deliver 4 material length", "cut 10 entry material length", "freeOf 3 bar",
        "freeByCuts 3 bar", "setPrice 3 material price", "setRate 2 kind price", "addFee 2 kind fee",
        "addCap 1 kind most", "addDouble 2 kind minutes", "addDiscount 2 kind percent", "costOf 4 kind minutes",
        "breakDown 3 machine cost", "shareOf 4 breakage member", "pay 2 member amount", "owes 4 member",
        "owesByEntries 3 member", "dueOf 4 entry", "takings 1", "use 2 machine anyDay", "meanMinutes 1", "isSound 2",
    };

    /** Some runs prefer one method, so that its limits are reached. */
    private static final String[] FAVOURITES = {"", "book", "deliver", "breakDown", "cut", "cancel", "await", "endDay"};

    private static long seed;
    private static final Map<String, Integer> answers = new TreeMap<>();

    public static void main(String[] args) throws ReflectiveOperationException {
        Map<String, Method> desk = methods(Lendlathe.class);
        Map<String, Method> plain = methods(PlainDesk.class);
        List<String[]> calls = new ArrayList<>();
        for (String text : CALLS_OF) {
            String[] words = text.split(" ");
            for (int i = 0; i < Integer.parseInt(words[1]); i++) {
                calls.add(words);
            }
        }
        for (int run = 0; run < RUNS; run++) {
            seed = run * 7919L + 1;
            compare(run, desk, plain, calls);
        }
        everyAnswerCame();
        Expect.end();
    }

    private static Map<String, Method> methods(Class<?> type) {
        Map<String, Method> methods = new TreeMap<>();
        for (Method method : type.getMethods()) {
            if (method.getDeclaringClass() == type) {
                methods.put(method.getName(), method);
            }
        }
        return methods;
    }

    private static void compare(int run, Map<String, Method> desk, Map<String, Method> plain, List<String[]> calls)
            throws ReflectiveOperationException {
        Lendlathe one = new Lendlathe();
        PlainDesk other = new PlainDesk();
        State state = new State(run);
        for (int call = 0; call < CALLS; call++) {
            String[] words = state.choose(calls, call);
            Object[] values = new Object[words.length - 2];
            for (int i = 0; i < values.length; i++) {
                values[i] = state.value(words[i + 2], other);
            }
            Object due = answer(plain.get(words[0]), other, values);
            Object got = answer(desk.get(words[0]), one, values);
            String told = due instanceof Class<?> type ? words[0] + " " + type.getSimpleName() : words[0];
            answers.merge(told, 1, Integer::sum);
            Expect.equal("run " + run + " call " + call + " " + words[0] + java.util.Arrays.toString(values), due, got);
            if (!due.equals(got)) {
                return;
            }
        }
        Expect.equal("run " + run + " isSound()", true, one.isSound());
    }

    private static Object answer(Method method, Object owner, Object[] values) throws IllegalAccessException {
        try {
            return method.invoke(owner, values);
        } catch (InvocationTargetException e) {
            if (owner instanceof Lendlathe && !Expect.isThrownByCode(e.getCause())) {
                Expect.fail(method.getName() + " was answered by an exception of the machine: " + e.getCause());
            }
            return e.getCause().getClass();
        }
    }

    /** The runs are worth little if some exception of the face never came in them. */
    private static void everyAnswerCame() {
        List<Method> methods = new ArrayList<>(methods(Lendlathe.class).values());
        methods.sort(Comparator.comparing(Method::getName));
        for (Method method : methods) {
            Expect.equal(method.getName() + " answered in some run", true, answers.containsKey(method.getName()));
            for (Class<?> type : method.getExceptionTypes()) {
                String told = method.getName() + " " + type.getSimpleName();
                boolean isOutOfReach = told.equals("endDay IllegalStateException")
                        || told.equals("pay IllegalStateException");
                Expect.equal(told + " in some run", true, isOutOfReach || answers.containsKey(told));
            }
        }
    }

    private static int below(int bound) {
        seed = seed * 6364136223846793005L + 1442695040888963407L;
        return (int) ((seed >>> 33) % bound);
    }

    /** What a run prefers, so that runs differ: few or many machines, short or long entries, few days or many. */
    private static final class State {
        private final int machines;
        private final int members;
        private final int days;
        private final int longest;
        private final int step;
        private final int wrong;
        private final int kinds;
        private final int span;
        private final int patience;
        private final String favourite;

        State(int run) {
            machines = 1 + run % 6;
            members = 2 + run % 9;
            days = 1 + run % 7;
            longest = run % 3 == 0 ? 240 : run % 3 == 1 ? 60 : 15;
            step = run % 2 == 0 ? 1 : 15;
            wrong = run % 5 == 0 ? 12 : 300;
            kinds = 1 + run / 2 % 4;
            span = run % 3 == 2 ? 100 : 480;
            patience = run % 4 == 0 ? 1 : 8;
            favourite = FAVOURITES[run / 3 % FAVOURITES.length];
        }

        String[] choose(List<String[]> calls, int call) {
            String opening = call < machines ? "addMachine" : call < machines + members ? "addMember"
                    : call < machines + 3 * members ? "induct" : "";
            if (!opening.isEmpty() && below(wrong) > 0) {
                return named(calls, opening);
            }
            String[] words = calls.get(below(calls.size()));
            if (!favourite.isEmpty() && below(5) < 3) {
                words = named(calls, favourite);
            }
            boolean isRare = words[0].equals("endDay") || words[0].equals("addNeed");
            if (isRare && !words[0].equals(favourite) && below(patience) > 0) {
                words = calls.get(below(calls.size()));
            }
            return words;
        }

        private static String[] named(List<String[]> calls, String name) {
            for (String[] words : calls) {
                if (words[0].equals(name)) {
                    return words;
                }
            }
            throw new IllegalStateException(name);
        }

        Object value(String sort, PlainDesk desk) {
            boolean isWrong = below(wrong) == 0;
            switch (sort) {
                case "kind": return isWrong ? edge(0, 3) : below(kinds);
                case "material": return number(0, 2, isWrong);
                case "setup": return number(0, 30, isWrong);
                case "member": return isWrong ? edge(0, 9) : below(members);
                case "machine": return isWrong ? edge(0, machines - 1) : below(machines);
                case "liveDay": return isWrong ? edge(desk.day(), 999) : desk.day() + below(40);
                case "nextDay": return isWrong ? edge(desk.day(), desk.day() + 6) : desk.day() + below(days);
                case "anyDay": return isWrong ? edge(0, desk.day() + 6)
                        : Math.max(0, desk.day() + 6 - below(12));
                case "start": return isWrong ? edge(0, 479) : below(span / step) * step;
                case "minutes": return isWrong ? edge(1, 240) : 1 + below(longest);
                case "work": return isWrong ? (char) ('a' + below(6) - 2) : (char) ('a' + below(3));
                case "minute": return number(0, 479, isWrong);
                case "entry": return isWrong ? edge(0, desk.entries() - 1) : entry(desk);
                case "bar": return below(8);
                case "length": return isWrong ? edge(1, 5000) : 1 + below(below(4) == 0 ? 5000 : 300);
                case "price": return number(0, 99, isWrong);
                case "fee": return number(0, 999, isWrong);
                case "most": return number(0, 9999, isWrong);
                case "percent": return number(0, 100, isWrong);
                case "cost": return isWrong ? edge(1, 100000) : 1 + below(below(2) == 0 ? 100000 : 50);
                case "breakage": return below(6);
                case "amount": return isWrong ? edge(1, 1000000) : 1 + below(5000);
                default: throw new IllegalStateException(sort);
            }
        }

        /** Mostly one that still waits or is booked. */
        private static int entry(PlainDesk desk) {
            int entry = 0;
            for (int turn = 0; turn < 6 && desk.entries() > 0; turn++) {
                entry = below(desk.entries());
                if (desk.stateOf(entry) == 'w' || desk.stateOf(entry) == 'b') {
                    return entry;
                }
            }
            return entry;
        }

        private static int number(int least, int most, boolean isWrong) {
            return isWrong ? edge(least, most) : least + below(most - least + 1);
        }

        /** A number at one of the bounds, or beyond it, or far from it. */
        private static int edge(int least, int most) {
            int[] edges = {least, least - 1, most, most + 1, Integer.MIN_VALUE, Integer.MAX_VALUE, least - 1, most + 1};
            return edges[below(edges.length)];
        }
    }
}
