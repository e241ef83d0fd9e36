import java.lang.reflect.InvocationTargetException;
import java.lang.reflect.Method;
import java.lang.reflect.Modifier;
import java.util.ArrayList;
import java.util.Arrays;
import java.util.Comparator;
import java.util.List;
import java.util.Random;

/** Runs of calls by chance on PaperVote and on the Model; every answer must be the same. */
public final class ModelTest {
    private static final int RUNS = 1500;
    // Three more are made behind each, and an object is good for 512.
    private static final int CALLS = 128;
    private static int wrong = 0;

    private final Random chance;
    private final Halls halls;
    private final PaperVote x = new PaperVote();
    private final Model y = new Model();
    private final List<String> told = new ArrayList<>();
    private final List<Method> calls = new ArrayList<>();
    private int made = 0;

    private ModelTest(long run) {
        chance = new Random(run);
        halls = new Halls(chance);
        for (Method m : PaperVote.class.getDeclaredMethods()) {
            if (Modifier.isPublic(m.getModifiers())) {
                calls.add(m);
            }
        }
        calls.sort(Comparator.comparing(Method::getName));
    }

    public static void main(String[] args) throws Exception {
        for (int run = 1; run <= RUNS && wrong < 5; run++) {
            new ModelTest(run).go(run);
        }
        System.out.println(wrong == 0 ? "all answers are as by the model" : wrong + " runs differ");
        if (wrong != 0) {
            System.exit(1);
        }
    }

    private void go(int run) throws Exception {
        boolean same = true;
        if (run % 10 != 0) {
            same = tell(halls.good());
        }
        while (same && made < CALLS) {
            int kind = chance.nextInt(100);
            if (kind < 3) {
                same = tell(halls.spoiled());
            } else if (kind == 3) {
                same = tell(halls.good());
            } else {
                Method m = calls.get(chance.nextInt(calls.size()));
                same = call(m, arguments(m));
            }
        }
        if (!same) {
            wrong++;
            System.out.println("run " + run + " differs at its end:");
            told.subList(Math.max(0, told.size() - 25), told.size()).forEach(System.out::println);
        }
    }

    private boolean tell(String text) throws Exception {
        int[] n = Check.fives(text);
        told.add("text: " + text);
        Method feed = find("feed");
        boolean same = true;
        for (int i = 0; i < n.length && same && made < CALLS; i += 5) {
            same = call(feed, new Object[] {n[i], n[i + 1], n[i + 2], n[i + 3], n[i + 4]});
        }
        return same && (made >= CALLS || call(find("hall"), new Object[] {text.length()}));
    }

    private Method find(String name) {
        return calls.stream().filter(m -> m.getName().equals(name)).findFirst().get();
    }

    private Object[] arguments(Method m) {
        Object[] args = new Object[m.getParameterCount()];
        for (int i = 0; i < args.length; i++) {
            args[i] = m.getParameterTypes()[i] == boolean.class ? (Object) chance.nextBoolean() : number();
        }
        boolean session = Arrays.asList("sessions", "lucky", "darts", "seed").contains(m.getName());
        if (session && chance.nextInt(4) != 0) {
            int seedAt = m.getName().equals("sessions") || m.getName().equals("lucky") ? 1 : 0;
            args[seedAt] = chance.nextInt(65537);
            if (args.length > 1) {
                args[args.length - 1] = 1 + chance.nextInt(90);
            }
        }
        return args;
    }

    private int number() {
        int[] far = {-1, 12, 13, 90, 91, 900, 65536, 65537, Integer.MIN_VALUE, Integer.MAX_VALUE, -2, 7};
        return chance.nextInt(15) == 0 ? far[chance.nextInt(far.length)]
                : chance.nextInt(3) == 0 ? chance.nextInt(13) : chance.nextInt(5);
    }

    private boolean call(Method m, Object[] args) throws Exception {
        made++;
        String got = answer(m, x, args);
        String want = answer(Model.class.getDeclaredMethod(m.getName(), m.getParameterTypes()), y, args);
        told.add(m.getName() + Arrays.toString(args) + " = " + got + ", by the model " + want);
        String gotBeside = x.trouble() + " " + x.where() + " " + x.fault();
        String wantBeside = y.trouble() + " " + y.where() + " " + y.fault();
        if (!gotBeside.equals(wantBeside)) {
            told.add("  trouble, where, fault: " + gotBeside + ", by the model " + wantBeside);
        }
        return got.equals(want) && gotBeside.equals(wantBeside);
    }

    private static String answer(Method m, Object on, Object[] args) throws Exception {
        try {
            return "" + m.invoke(on, args);
        } catch (InvocationTargetException e) {
            return "throws " + e.getCause().getClass().getName();
        }
    }
}
