import java.lang.reflect.InvocationTargetException;
import java.lang.reflect.Method;
import java.util.ArrayList;
import java.util.Comparator;
import java.util.List;
import java.util.Random;

/**
 * Runs of calls by chance, each answered by the program and by PlainPunches. They are always the same ones, unless
 * another first number and another number of runs are given.
 */
public final class RandomRunsTest {
    private static final int RUNS = 120;
    private static final int CALLS = 150;
    private static int wrong = 0;

    private final Random chance;
    private final HollowPunches program = new HollowPunches();
    private final PlainPunches plain = new PlainPunches();
    private final StringBuilder story = new StringBuilder();

    private RandomRunsTest(long seed) {
        chance = new Random(seed);
    }

    public static void main(String[] args) throws Exception {
        List<Method> calls = new ArrayList<>();
        for (Method m : HollowPunches.class.getDeclaredMethods()) {
            if (java.lang.reflect.Modifier.isPublic(m.getModifiers()) && !m.isSynthetic()) {
                calls.add(m);
            }
        }
        calls.sort(Comparator.comparing(Method::getName));
        int first = args.length > 0 ? Integer.parseInt(args[0]) : 1000;
        int runs = args.length > 1 ? Integer.parseInt(args[1]) : RUNS;
        for (int run = 0; run < runs && wrong < 5; run++) {
            new RandomRunsTest(first + run).run(calls);
        }
        System.out.println(wrong == 0 ? "all random runs agree" : "random runs differ");
        System.exit(wrong == 0 ? 0 : 1);
    }

    private void run(List<Method> calls) throws Exception {
        for (int i = 0; i < CALLS && wrong < 5; i++) {
            if (i % 60 == 0 || chance.nextInt(60) == 0) {
                tell();
            }
            Method m = calls.get(chance.nextInt(calls.size()));
            boolean tape = m.getName().equals("feed") || m.getName().equals("sheet");
            if (!tape || chance.nextInt(6) == 0) {
                ask(m);
            }
            int kind = chance.nextInt(12);
            if (kind == 0) {
                cutWell(true);
            } else if (kind == 1) {
                cutWell(false);
            } else if (kind == 2) {
                ask(find(calls, "print"));
            }
        }
    }

    private void ask(Method m) throws Exception {
        ask(m.getName(), m.getParameterTypes(), arguments(m));
    }

    private static Method find(List<Method> calls, String name) {
        for (Method m : calls) {
            if (m.getName().equals(name)) {
                return m;
            }
        }
        throw new AssertionError(name);
    }

    /** Cuts a punch (or plans it) as it should be cut, now and then with an act left out or one too many. */
    private void cutWell(boolean plan) throws Exception {
        if (program.told(0) == 0) {
            return;
        }
        int letter = chance.nextInt(program.told(0));
        Class<?>[] one = {int.class};
        Class<?>[] three = {int.class, int.class, int.class};
        ask(plan ? "clear" : "begin", plan ? new Class<?>[0] : one, plan ? new Object[0] : new Object[] {letter});
        for (int h = 0; h < program.told(2); h++) {
            boolean own = (program.hollow(h) & ~program.squares(letter, 2)) == 0;
            if (own && chance.nextInt(9) > 0) {
                ask(plan ? "addBlow" : "blow", one, new Object[] {h});
            }
        }
        for (int line = 0; line < 32; line++) {
            int deep = 0;
            while (deep < 8 && free(letter, line, deep)) {
                deep++;
            }
            deep = Math.min(8, deep + (chance.nextInt(90) == 0 ? 1 : 0));
            boolean wanted = (program.lines(letter) >>> line & 1) == 1 && chance.nextInt(25) > 0;
            if (wanted && deep > 0) {
                ask(plan ? "addFile" : "file", three, new Object[] {line / 8, line % 8, deep});
            }
            if (!plan && chance.nextInt(9) == 0) {
                ask("left", new Class<?>[0], new Object[0]);
            }
        }
        Class<?>[] two = {int.class, int.class};
        for (int what = 0; what < 2; what++) {
            ask(plan ? "judge" : "punch", plan ? two : one,
                    plan ? new Object[] {letter, what} : new Object[] {what});
        }
    }

    private boolean free(int letter, int line, int deep) {
        int step = line / 8 % 2 == 0 ? deep : 7 - deep;
        int at = line < 16 ? 8 * (line % 8) + step : 8 * step + line % 8;
        return (program.squares(letter, 0) >>> at & 1) == 0;
    }

    private void tell() throws Exception {
        String text = new TextByChance(chance).make();
        while (program.count(3) > 0) {
            ask("sheet", new Class<?>[] {int.class}, new Object[] {0});
        }
        int n = text.length();
        StringBuilder padded = new StringBuilder(text);
        while (padded.length() % 20 != 0) {
            padded.append((char) 0);
        }
        for (int at = 0; at < padded.length(); at += 20) {
            Object[] numbers = new Object[5];
            for (int k = 0; k < 5; k++) {
                int v = 0;
                for (int b = 0; b < 4; b++) {
                    v = v << 8 | padded.charAt(at + 4 * k + b);
                }
                numbers[k] = v;
            }
            ask("feed", new Class<?>[] {int.class, int.class, int.class, int.class, int.class}, numbers);
        }
        story.append("  text: ").append(text).append('\n');
        ask("sheet", new Class<?>[] {int.class}, new Object[] {n});
        ask("fault", new Class<?>[0], new Object[0]);
    }

    private Object[] arguments(Method m) {
        Class<?>[] types = m.getParameterTypes();
        Object[] given = new Object[types.length];
        for (int i = 0; i < types.length; i++) {
            if (types[i] == boolean.class) {
                given[i] = chance.nextBoolean();
            } else if (types[i] == long.class) {
                given[i] = bits();
            } else {
                given[i] = number(m.getName(), i);
            }
        }
        return given;
    }

    private long bits() {
        switch (chance.nextInt(6)) {
            case 0: return chance.nextInt(3) == 0 ? 0L : 7L << chance.nextInt(64);
            case 1: return chance.nextInt(3) == 0 ? chance.nextLong() : 257L << chance.nextInt(64);
            case 2: return 1L << chance.nextInt(64);
            case 3: return (long) (1 + chance.nextInt(15)) << chance.nextInt(60);
            default:
                long b = 1L << chance.nextInt(64);
                int steps = chance.nextInt(3);
                for (int k = 0; k < steps; k++) {
                    b |= b << 1 | (chance.nextBoolean() ? b << 8 : b >>> 8);
                }
                return b;
        }
    }

    private int number(String call, int i) {
        if (chance.nextInt(40) == 0) {
            return new int[] {Integer.MIN_VALUE, Integer.MAX_VALUE, -1, -2, 1000, 65, 16, 512}[chance.nextInt(8)];
        }
        switch (call) {
            case "feed": return chance.nextInt();
            case "sheet": return chance.nextInt(60);
            case "told": case "punch": case "count": return chance.nextInt(4);
            case "originals": case "nearest": return chance.nextInt(2);
            case "fount": return i == 0 ? 1 + chance.nextInt(511) : chance.nextInt(100);
            case "press": return chance.nextInt(chance.nextInt(9) == 0 ? 100100 : 9000);
            case "colour": return i == 2 ? room() : i == 0 ? within(1) : 1 + chance.nextInt(9);
            case "uneven": return i == 1 ? room() : 1 + chance.nextInt(9);
            case "even": return 1 + chance.nextInt(9);
            case "hours": case "bars": case "order":
                return i == 0 ? within(0) : chance.nextInt(i == 3 ? 13 : chance.nextBoolean() ? 4 : 16);
            case "blow": case "addBlow": case "hollow": case "apart": return within(2);
            case "served": return i == 0 ? within(2) : chance.nextInt(9);
            case "punches": return i == 0 ? chance.nextInt(9) : chance.nextInt(2);
            case "partings": return i == 0 ? chance.nextInt(9) : chance.nextInt(3);
            case "kin": return i == 2 ? chance.nextInt(9) : chance.nextInt(Math.max(1, program.count(1)));
            case "file": case "addFile":
                return i == 0 ? chance.nextInt(4) : i == 1 ? chance.nextInt(8) : 1 + chance.nextInt(8);
            case "black": return i == 0 ? within(0) : 1 + chance.nextInt(9);
            case "letter": return i == 0 ? within(0) : chance.nextInt(5);
            case "squares": return i == 0 ? within(0) : chance.nextInt(3);
            case "bites": case "judge": return i == 0 ? within(0) : chance.nextInt(2);
            default: return within(0);
        }
    }

    /** A number of something that the sheet has told, or now and then the first that it has not. */
    private int within(int what) {
        return chance.nextInt(Math.max(1, program.told(what) + (chance.nextInt(12) == 0 ? 1 : 0)));
    }

    private int room() {
        return chance.nextInt(chance.nextBoolean() ? 3200 : 9765626);
    }

    private void ask(String name, Class<?>[] types, Object[] given) throws Exception {
        story.append("  ").append(name).append(java.util.Arrays.toString(given)).append('\n');
        String got = answer(program, HollowPunches.class, name, types, given);
        String due = answer(plain, PlainPunches.class, name, types, given);
        if (!got.equals(due)) {
            wrong++;
            System.out.println("program " + got + ", due " + due + ", behind\n" + story);
        }
    }

    private static String answer(Object on, Class<?> face, String name, Class<?>[] types, Object[] given)
            throws Exception {
        Method m = face.getDeclaredMethod(name, types);
        m.setAccessible(true);
        try {
            return String.valueOf(m.invoke(on, given));
        } catch (InvocationTargetException e) {
            return e.getCause().getClass().getName();
        }
    }
}
