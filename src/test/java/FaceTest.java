import java.lang.reflect.Constructor;
import java.lang.reflect.Field;
import java.lang.reflect.InvocationTargetException;
import java.lang.reflect.Method;
import java.lang.reflect.Modifier;
import java.util.Arrays;
import java.util.NoSuchElementException;
import java.util.Set;
import java.util.TreeSet;

/** The face is the document's, nothing more; and no call throws by itself, whatever it is given. */
public final class FaceTest {
    private static final String[] FACE = {
        "int feed(int,int,int,int,int)", "int hall(int)", "int fault()", "int where()",
        "int speaker(int,int)", "int member(int,int)", "int air(int)", "int lamp(int,int)",
        "int lands(int)", "int votes(int)", "int nearest(int,int)", "int winner()", "int counted()",
        "int hang()", "int thickest()", "long likely(int,int,boolean)", "long wins(int,boolean)",
        "long just(int,int,boolean)", "long mean(int,boolean)", "int favourite()",
        "int bestFold(int,int)", "long bestLikely(int,int,boolean)", "int bestSeat(int,int)",
        "int place(int)", "int placeVotes(int)", "int game(int,int,int,int,boolean)",
        "int rests(int,int)", "int rest(int,int)", "int airs()", "int could(int)", "int surely(int)",
        "int toThrow()", "int throwLeaves()", "int judge()", "int power(int)", "int mighty()",
        "int rake()", "int sessions(int,int,int)", "int darts(int,int)", "int lucky(int,int,int)",
        "boolean sit(int,int)", "boolean fold(int,int)", "boolean aim(int,int)",
        "boolean warm(int,int)", "boolean stand(int,int,int)", "int session()", "boolean seed(int)",
        "boolean undo()", "int image()", "boolean back(int)", "int led(int)", "int size(int)",
        "int trouble()"};
    private static final int[] EXTREMES = {Integer.MIN_VALUE, -65537, -2, -1, 0, 1, 2, 3, 4, 5, 6, 7, 11, 12,
        13, 89, 90, 91, 900, 901, 65536, 65537, 1 << 30, Integer.MAX_VALUE};

    private static int wrong = 0;

    public static void main(String[] args) throws Exception {
        face();
        String full = "hall long 12 rows 6 nose 9;fog 6;fog 5;fog 1;air 2 left 3;air 3 right 3;air 4 right 2;"
                + "speaker a at 0 1;speaker b at 11 6;speaker c at 5 3;speaker d at 5 4;lamp 0 6;lamp 11 1;"
                + "lamp 6 3;member e plain seat 0 far 6 sharp 9 errs 100;member f stable seat 11 far 6 sharp 0 "
                + "errs 99;member g loop seat 6 far 4 sharp 0 errs 1;member h flat seat 11 far 6 sharp 0 errs 0;"
                + "member i loop seat 0 far 5 sharp 0 errs 50;member j plain seat 11 far 1 sharp 0 errs 37;"
                + "flight 0 far 6 lands 5;flight 11 far 6 lands 11";
        for (String text : new String[] {"", "hall long 3 rows 1 nose 0;speaker s at 0 1", full}) {
            extremes(text);
        }
        System.out.println(wrong == 0 ? "the face is as due" : wrong + " faults of the face");
        if (wrong != 0) {
            System.exit(1);
        }
    }

    private static void due(boolean right, String text) {
        if (!right) {
            wrong++;
            System.out.println(text);
        }
    }

    private static void face() {
        Set<String> want = new TreeSet<>(Arrays.asList(FACE));
        Set<String> got = new TreeSet<>();
        Set<String> names = new TreeSet<>();
        for (Method m : PaperVote.class.getDeclaredMethods()) {
            if (Modifier.isPublic(m.getModifiers())) {
                String types = Arrays.toString(m.getParameterTypes()).replaceAll("[\\[\\] ]", "");
                got.add(m.getReturnType() + " " + m.getName() + "(" + types + ")");
                names.add(m.getName());
                due(!Modifier.isStatic(m.getModifiers()), m + " is static");
            }
        }
        due(want.equals(got), "the face is " + got + ", due is " + want);
        due(FACE.length == 53, "promises 2 to 54 are 53 methods");
        hiddenOf(PaperVote.class, names);
        for (Class<?> inside : PaperVote.class.getDeclaredClasses()) {
            due(Modifier.isStatic(inside.getModifiers()), inside + " isn't static");
            for (Method m : inside.getDeclaredMethods()) {
                due(!names.contains(m.getName()), m + " bears the name of a public one");
            }
        }
        due(Modifier.isFinal(PaperVote.class.getModifiers()), "the class isn't final");
        Constructor<?>[] made = PaperVote.class.getDeclaredConstructors();
        due(made.length == 1 && Modifier.isPublic(made[0].getModifiers())
                && made[0].getParameterCount() == 0, "the constructor isn't the document's");
    }

    private static void hiddenOf(Class<?> c, Set<String> names) {
        for (Method m : c.getDeclaredMethods()) {
            boolean open = Modifier.isPublic(m.getModifiers());
            due(open || Modifier.isPrivate(m.getModifiers()), m + " is neither public nor private");
            due(open || !names.contains(m.getName()), m + " bears the name of a public one");
        }
        for (Field f : c.getDeclaredFields()) {
            due(f.getName().equals("NONE") == Modifier.isPublic(f.getModifiers()), f + " is not as due");
            due(f.getName().equals("NONE") || Modifier.isPrivate(f.getModifiers()), f + " isn't private");
        }
    }

    private static void extremes(String text) throws Exception {
        PaperVote x = new PaperVote();
        Check.tell(x, text);
        for (Method m : PaperVote.class.getDeclaredMethods()) {
            if (Modifier.isPublic(m.getModifiers()) && !m.getName().equals("feed")) {
                vary(x, m, new Object[m.getParameterCount()], 0);
            }
        }
        for (int i = 0; i < 50; i++) {
            x.feed(-1, Integer.MIN_VALUE, 0x616161, 0x39393939, i);
            due(x.size(12) <= 900, "THE TAPE has " + x.size(12));
            x.hall(i % 7 == 6 ? x.size(12) : 901);
        }
    }

    private static void vary(PaperVote x, Method m, Object[] args, int at) throws Exception {
        if (at == args.length) {
            invoke(x, m, args);
        } else if (m.getParameterTypes()[at] == boolean.class) {
            args[at] = true;
            vary(x, m, args, at + 1);
            args[at] = false;
            vary(x, m, args, at + 1);
        } else {
            // With four numbers fewer of each are enough.
            int step = args.length > 4 ? 3 : 1;
            for (int i = 0; i < EXTREMES.length; i += step) {
                args[at] = EXTREMES[i];
                vary(x, m, args, at + 1);
            }
        }
    }

    private static void invoke(PaperVote x, Method m, Object[] args) throws Exception {
        try {
            m.invoke(x, args);
        } catch (InvocationTargetException e) {
            boolean led = m.getName().equals("led") && e.getCause().getClass() == NoSuchElementException.class;
            due(led, m.getName() + Arrays.toString(args) + " throws " + e.getCause());
        }
    }
}
