import java.lang.reflect.InvocationTargetException;
import java.lang.reflect.Method;
import java.util.ArrayList;
import java.util.Comparator;
import java.util.List;
import java.util.Set;
import java.util.TreeSet;
import java.util.function.Supplier;
import java.util.function.ToLongFunction;
import java.util.stream.Stream;

/**
 * Cases at the edges. A test of them is a class under this one; each of its cases is a static method of its own, without
 * arguments, named promiseN_and_what_it_asks. That name stands ahead of all that such a case finds wrong.
 */
abstract class Edges {
    private static String running = "";
    private static String asking = "";
    private static int asked;
    private static int wrong;

    /** Runs every case of a test; each of these promises must have one. */
    static void run(Class<?> test, int... promises) throws IllegalAccessException {
        List<Method> cases = new ArrayList<>();
        Set<Integer> met = new TreeSet<>();
        for (Method m : test.getDeclaredMethods()) {
            if (m.getName().startsWith("promise")) {
                cases.add(m);
                met.add(promiseOf(m));
            }
        }
        cases.sort(Comparator.comparingInt(Edges::promiseOf).thenComparing(Method::getName));
        running = test.getName();
        for (Method m : cases) {
            runOne(m);
        }
        asking = "all of " + running;
        for (int promise : promises) {
            holds("promise " + promise + " has a case", met.contains(promise));
        }
        System.out.println(running + ": " + cases.size() + " cases, " + asked + " asked, " + wrong + " wrong");
        if (wrong != 0) {
            System.exit(1);
        }
    }

    private static int promiseOf(Method m) {
        return Integer.parseInt(m.getName().substring("promise".length(), m.getName().indexOf('_')));
    }

    private static void runOne(Method m) throws IllegalAccessException {
        String name = m.getName();
        asking = "promise " + promiseOf(m) + ": " + name.substring(name.indexOf('_') + 1).replace('_', ' ');
        int before = asked;
        try {
            m.setAccessible(true);
            m.invoke(null);
        } catch (InvocationTargetException e) {
            isWrong("threw " + e.getCause());
        }
        holds("the case asks something", asked > before);
    }

    private static void isWrong(String what) {
        wrong++;
        String at = "";
        for (StackTraceElement step : new Throwable().getStackTrace()) {
            if (step.getClassName().equals(running) && step.getMethodName().startsWith("promise")) {
                at = " (line " + step.getLineNumber() + ")";
            }
        }
        System.out.println(asking + at + ": " + what);
    }

    static void due(long want, long got) {
        asked++;
        if (got != want) {
            isWrong("answered " + got + ", due is " + want);
        }
    }

    static void holds(String what, boolean is) {
        asked++;
        if (!is) {
            isWrong("not so: " + what);
        }
    }

    /** The HEAT of all, from person 0 on. */
    static void heatsAre(StruckWhile x, int... want) {
        due(want.length, x.count(0));
        for (int p = 0; p < want.length; p++) {
            due(want[p], x.of(p, 2));
        }
    }

    /** The call is answered so, and what is seen behind it is what is seen of an object without it. */
    static void changesNothing(long want, Supplier<StruckWhile> made, ToLongFunction<StruckWhile> call) {
        StruckWhile x = made.get();
        due(want, call.applyAsLong(x));
        leftAsItWas(x, made);
    }

    /** In each of the usual states. */
    static void changesNothing(long want, ToLongFunction<StruckWhile> call) {
        for (Supplier<StruckWhile> made : Stands.ALL) {
            changesNothing(want, made, call);
        }
    }

    /** The call is answered alike as often as it is asked, and changes nothing in any of the usual states. */
    static void asksOnly(ToLongFunction<StruckWhile> call) {
        for (Supplier<StruckWhile> made : Stands.ALL) {
            StruckWhile x = made.get();
            long first = call.applyAsLong(x);
            due(first, call.applyAsLong(x));
            leftAsItWas(x, made);
        }
    }

    /** The call changes something, and all that is otherwise behind it is in lines of a Sight that begin with one of these. */
    static void changesOnly(long want, Supplier<StruckWhile> made, ToLongFunction<StruckWhile> call, String... beginnings) {
        StruckWhile x = made.get();
        due(want, call.applyAsLong(x));
        List<String> got = Sight.of(x);
        List<String> without = Sight.of(made.get());
        holds("something changed", !got.equals(without));
        for (int i = 0; i < got.size(); i++) {
            String line = got.get(i);
            boolean mayChange = Stream.of(beginnings).anyMatch(line::startsWith);
            holds("only " + String.join(", ", beginnings) + " may change: " + line + ", without the call " + without.get(i),
                mayChange || line.equals(without.get(i)));
        }
    }

    private static void leftAsItWas(StruckWhile x, Supplier<StruckWhile> made) {
        asked++;
        List<String> got = Sight.of(x);
        List<String> want = Sight.of(made.get());
        for (int i = 0; i < want.size(); i++) {
            if (!got.get(i).equals(want.get(i))) {
                isWrong("changed something: then " + got.get(i) + ", without the call " + want.get(i));
                return;
            }
        }
    }
}
