import java.lang.reflect.Method;
import java.util.ArrayList;
import java.util.Arrays;
import java.util.Comparator;
import java.util.HashMap;
import java.util.List;
import java.util.Map;
import java.util.Random;

/** Promises 1 to 35: runs of chosen calls, right and wrong, answer as the Model does. */
public final class ModelTest {
    private static final Check C = new Check("the model");
    private static final int RUNS = Integer.getInteger("runs", 400);
    private static final int CALLS = 512;

    /** By call: the numbers from .. to for each argument; mostly the right ones. */
    private static final Map<String, int[][]> RANGES = new HashMap<>();
    private static final String[] OFTEN = {"pass", "heat", "away", "anvil", "see", "can", "on", "best", "talk", "odds",
        "mean", "plan", "ends", "book", "looked", "judge", "item", "item", "read", "shift", "act", "trace", "row", "row", "of",
        "piece", "text", "text"};

    private static void range(String call, int... fromTo) {
        int[][] all = new int[fromTo.length / 2][];
        for (int i = 0; i < all.length; i++) {
            all[i] = new int[] {fromTo[2 * i], fromTo[2 * i + 1]};
        }
        RANGES.put(call, all);
    }

    static {
        range("one", 0, 6, 0, 9, 0, 99);
        range("of", 0, 5, 0, 5);
        range("heat", 0, 5, 0, 99);
        range("away", 0, 5, 0, 1);
        range("work", 1, 400, 0, 40);
        range("piece", 0, 3, 0, 4);
        range("anvil", -1, 3);
        range("row", 0, 5, 0, 3, 0, 9);
        range("feed", 32, 120);
        range("square");
        range("told", 0, 5);
        range("pass", 0, 4);
        range("on", 0, 60, 9, 25);
        range("best", 0, 40, -1, 3);
        range("talk", 0, 99, 0, 1);
        range("see", -1, 5, 0, 12, 0, 1);
        range("can", 0, 5, 0, 1, 0, 1);
        range("odds", 0, 5, 0, 20, 0, 1);
        range("mean", 0, 60, 0, 1);
        range("plan", -1, 3, 0, 5);
        range("ends", 0, 1);
        range("book", -1, 5, 0, 99);
        range("looked");
        range("judge", 0, 2, 0, 8);
        range("image");
        range("undo");
        range("act", 0, 5, 0, 2, -1000, 1000);
        range("trace", -1, 13);
        range("taken", 0, 5, 0, 6);
        range("count", 0, 7);
        range("tape", 0, 2, 0, 4, 0, 12);
        range("item", 0, 2, 0, 12, 0, 99);
        range("read", 0, 2, 0, 12);
        range("shift", 0, 2, 0, 8, 0, 2, 0, 8, 0, 8);
    }

    public static void main(String[] args) throws Exception {
        Method[] faced = StruckWhile.class.getDeclaredMethods();
        Map<String, Method> calls = new HashMap<>();
        Map<String, Method> due = new HashMap<>();
        for (Method m : faced) {
            if (java.lang.reflect.Modifier.isPublic(m.getModifiers())) {
                calls.put(m.getName(), m);
                due.put(m.getName(), Model.class.getDeclaredMethod(m.getName(), m.getParameterTypes()));
            }
        }
        C.holds("all of the face has its numbers", calls.keySet().equals(RANGES.keySet()));
        for (int run = 0; run < RUNS; run++) {
            if (!new Run(run, calls, due).goes()) {
                break;
            }
        }
        C.end();
    }

    private static final class Run {
        private final int number;
        private final Random random;
        private final Map<String, Method> calls;
        private final Map<String, Method> due;
        private final List<String> names;
        private final StruckWhile x = new StruckWhile();
        private final Model model = new Model();
        private final Texts texts;
        private final List<String> told = new ArrayList<>();
        private int made;

        Run(int number, Map<String, Method> calls, Map<String, Method> due) {
            this.number = number;
            this.random = new Random(number);
            this.calls = calls;
            this.due = due;
            this.texts = new Texts(random);
            names = new ArrayList<>(calls.keySet());
            names.sort(Comparator.naturalOrder());
            names.addAll(Arrays.asList(OFTEN));
        }

        boolean goes() throws Exception {
            int peopled = random.nextInt(3) == 0 ? random.nextInt(7) : 6;
            for (int i = 0; i < peopled; i++) {
                asks("one", random.nextInt(7), random.nextInt(10), random.nextInt(100));
            }
            int worked = random.nextInt(3) == 0 ? random.nextInt(5) : 4;
            for (int i = 0; i < worked; i++) {
                asks("work", 1 + random.nextInt(random.nextInt(3) == 0 ? 999 : 250), random.nextInt(41));
            }
            while (made < CALLS) {
                String name = names.get(random.nextInt(names.size()));
                boolean same = name.equals("text") ? feeds(texts.next()) : asks(name, numbers(name));
                if (!same) {
                    return false;
                }
            }
            return true;
        }

        private boolean feeds(String text) throws Exception {
            if (random.nextInt(4) != 0) {
                return true;
            }
            for (int i = 0; i < text.length(); i++) {
                if (!asks("feed", text.charAt(i))) {
                    return false;
                }
            }
            return asks("square");
        }

        private long[] numbers(String name) {
            int[][] ranges = RANGES.get(name);
            long[] all = new long[ranges.length];
            for (int i = 0; i < all.length; i++) {
                int from = ranges[i][0];
                int to = ranges[i][1];
                all[i] = from + random.nextInt(to - from + 1);
                int luck = random.nextInt(60);
                if (luck == 0) {
                    all[i] = to + 1;
                } else if (luck == 1) {
                    all[i] = from - 1;
                } else if (luck == 2) {
                    all[i] = from;
                } else if (luck == 3) {
                    all[i] = to;
                } else if (luck == 4) {
                    all[i] = random.nextBoolean() ? Integer.MAX_VALUE - random.nextInt(30) : Integer.MIN_VALUE + random.nextInt(30);
                } else if (luck == 5) {
                    all[i] = random.nextInt(200) - 50;
                }
            }
            if (name.equals("pass") && random.nextInt(12) == 0) {
                all[0] = 60;
            }
            if (name.equals("item") && random.nextInt(3) == 0) {
                all[2] = random.nextLong();
            }
            if (name.equals("item") && random.nextInt(2) == 0) {
                heatAsItem(all);
            }
            if (name.equals("book") && random.nextInt(4) != 0) {
                all[1] = Math.max(0, x.of((int) all[0], 2));
            }
            return all;
        }

        /** So that a TAPE now and then tells HEAT as it is. */
        private void heatAsItem(long[] all) {
            int person = random.nextInt(6);
            all[1] = person;
            all[2] = Math.max(0, x.of(person, 2));
        }

        private boolean asks(String name, long... numbers) throws Exception {
            Class<?>[] types = calls.get(name).getParameterTypes();
            Object[] args = new Object[types.length];
            for (int i = 0; i < types.length; i++) {
                if (types[i] == boolean.class) {
                    args[i] = numbers[i] == 1;
                } else if (types[i] == long.class) {
                    args[i] = numbers[i];
                } else {
                    args[i] = (int) numbers[i];
                }
            }
            long got = ((Number) calls.get(name).invoke(x, args)).longValue();
            long want = ((Number) due.get(name).invoke(model, args)).longValue();
            made++;
            String call = name + Arrays.toString(args);
            told.add(call + " " + want);
            C.due(0, "run " + number + ", call " + made + ", " + call, got, want);
            if (got != want) {
                told.forEach(System.out::println);
            }
            return got == want;
        }
    }

    /** Texts that mostly are SQUARES. */
    static final class Texts {
        private final Random random;

        Texts(Random random) {
            this.random = random;
        }

        String next() {
            StringBuilder text = new StringBuilder();
            int clauses = 1 + random.nextInt(random.nextInt(4) == 0 ? 11 : 4);
            for (int i = 0; i < clauses; i++) {
                text.append(i == 0 ? "" : ";").append(clause());
            }
            if (random.nextInt(6) == 0 && text.length() > 0) {
                text.setCharAt(random.nextInt(text.length()), "heatclmsprk 0159;|&!()<=>kvnq".charAt(random.nextInt(29)));
            }
            if (random.nextInt(12) == 0) {
                text.setLength(random.nextInt(text.length()));
            }
            return text.length() > 104 ? text.substring(0, 104) : text.toString();
        }

        private String clause() {
            int luck = random.nextInt(5);
            if (luck == 0) {
                return "spark " + number(99);
            }
            return (luck < 3 ? "heat " : "calm ") + number(random.nextBoolean() ? 15 : 99) + " " + either(0);
        }

        private String number(int most) {
            int n = random.nextInt(most + 1);
            return n < 10 && random.nextInt(4) == 0 ? "0" + n : "" + n;
        }

        private String either(int nested) {
            return random.nextInt(4) == 0 ? both(nested) + "|" + either(nested) : both(nested);
        }

        private String both(int nested) {
            return random.nextInt(4) == 0 ? factor(nested) + "&" + both(nested) : factor(nested);
        }

        private String factor(int nested) {
            int luck = random.nextInt(nested > 4 ? 40 : 7);
            if (luck == 0) {
                return "!" + factor(nested + 1);
            }
            if (luck == 1) {
                return "(" + either(nested + 1) + ")";
            }
            char letter = "pkvhnm".charAt(random.nextInt(6));
            int most = letter == 'n' ? 2 : letter == 'p' || letter == 'k' ? 6 : 9;
            return letter + "" + "<=>".charAt(random.nextInt(3)) + number(most);
        }
    }
}
