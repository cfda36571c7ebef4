import java.lang.reflect.InvocationTargetException;
import java.lang.reflect.Method;
import java.util.ArrayList;
import java.util.Arrays;
import java.util.List;
import java.util.Random;

/** All promises: runs of drawn calls, each answered by ScentCloth and by Model. The draws are the same each time. */
public final class RandomRunsTest {
    private static final int RUNS = 400, CALLS = 512;
    private static final int[] ODD_ONES = {Integer.MIN_VALUE, Integer.MAX_VALUE, -1, Due.NONE, Due.BAD, 1 << 16, -999, 1000};

    /** Each call with the bound of each argument: drawn within it, now and then just outside, seldom far off. */
    private static final String[] CALL_BOUNDS = {
        "scent 0-5 0-50", "told 0-8 0-3", "as 0-8 0-5", "turns 0-8 0-5", "pace 0-8 0-50", "hide 0-8 0-8 0-1",
        "hide 0-3 0-3 1-1", "nose 0-3 1-999", "nose 0-3 1-60", "word 1-511", "word 1-15", "wordOf 0-11", "deal 1-9",
        "seed 0-999999", "cloth", "strength 0-5 0-8", "loses 0-5 0-8", "dab 0-5 0-8 -999-999", "dab 0-2 0-4 0-300",
        "warm 0-5 0-50", "touch 0-5 0-5", "days 1-60", "days 1-3", "smells 0-5 0-3", "says 0-5 0-3",
        "behind 0-5 0-3 0-300", "behind 0-2 0-3 0-20", "first 0-5 0-3 0-11", "lasts 0-5 0-3 0-11 0-200",
        "whispers 0-5 0-3 0-200", "dumb 0-5 0-3", "secret 0-5 0-300", "secret 0-2 0-9", "least 0-5 0-8 0-3 0-100",
        "least 0-2 0-4 0-3 0-9", "letter 0-5 0-11 0-3 0-100", "letter 0-2 0-3 0-3 0-9", "dated 0-3 0-5 0-8 0-1",
        "price 0-5", "lie 0-5", "feed 0-999999999 0-999999999 0-999999999", "trim 0-96", "text", "textTold 0-13 0-1",
        "why 0-2", "sheet 0-3 -1-1 0-24", "sheet 0-3 0-1 1-9", "mark 0-3 0-23 -99999-99999", "mark 0-3 0-8 0-999",
        "mark 0-3 0-8 -1000000005--1000000005", "pour 0-5 0-3", "copy 0-3 0-24 0-3 0-24 0-24", "copy 0-3 0-5 0-3 0-5 0-5",
        "lay 0-4 0-3 0-8", "ask 0-4 0-5", "item 0-4 0-23", "rest 0-4 -99-99", "tell 0-99", "check 0-5 1-30", "keep",
        "back", "count 0-8"};

    private final Random random;
    private final int run;
    private final ScentCloth x = new ScentCloth();
    private final Model model = new Model();
    private final List<String> rows = new ArrayList<>();
    private int calls;
    private boolean wrong;

    private RandomRunsTest(int run) {
        this.run = run;
        random = new Random(run * 7919L + 17);
    }

    public static void main(String[] args) throws ReflectiveOperationException {
        int wrongRuns = 0;
        int allCalls = 0;
        for (int run = 0; run < RUNS && wrongRuns < 3; run++) {
            RandomRunsTest test = new RandomRunsTest(run);
            test.go();
            wrongRuns += test.wrong ? 1 : 0;
            allCalls += test.calls;
        }
        System.out.println(allCalls + " calls, " + wrongRuns + " runs not as due");
        if (wrongRuns != 0) {
            System.exit(1);
        }
    }

    private void go() throws ReflectiveOperationException {
        if (run % 4 != 0) {
            begin();
        }
        while (calls < CALLS && !wrong) {
            int choice = random.nextInt(20);
            if (choice == 0) {
                feedText();
            } else if (choice == 1) {
                tellDays();
            } else {
                drawnCall(CALL_BOUNDS[random.nextInt(CALL_BOUNDS.length)]);
            }
        }
    }

    private void begin() throws ReflectiveOperationException {
        call("seed", random.nextInt());
        call("deal", 1 + random.nextInt(6));
        for (int c = 0; c < 3; c++) {
            call("cloth");
            for (int s = 0; s < 4; s++) {
                call("dab", c, s, random.nextInt(1000));
            }
        }
        for (int w = 1; w < 7; w++) {
            call("word", w);
        }
        for (int late = run % 40 == 1 ? 166 : 0; late > 0; late--) {
            call("days", 60);
        }
    }

    private void drawnCall(String bounds) throws ReflectiveOperationException {
        String[] parts = bounds.split(" ");
        int[] arguments = new int[parts.length - 1];
        for (int i = 0; i < arguments.length; i++) {
            arguments[i] = drawn(parts[i + 1]);
        }
        call(parts[0], arguments);
    }

    private int drawn(String bound) {
        int dash = bound.indexOf('-', 1);
        int low = Integer.parseInt(bound.substring(0, dash));
        int high = Integer.parseInt(bound.substring(dash + 1));
        int way = random.nextInt(100);
        if (way == 0) {
            return ODD_ONES[random.nextInt(ODD_ONES.length)];
        }
        if (way < 4) {
            return random.nextBoolean() ? low - 1 : high + 1;
        }
        if (way < 16) {
            return random.nextBoolean() ? low : high;
        }
        int v = low + random.nextInt(high - low + 1);
        return way < 60 && low == 0 && high < 12 ? Math.min(v, random.nextInt(3)) : v;
    }

    private void call(String name, int... arguments) throws ReflectiveOperationException {
        if (calls >= CALLS || wrong) {
            return;
        }
        calls++;
        Class<?>[] types = new Class<?>[arguments.length];
        Arrays.fill(types, int.class);
        Object[] boxed = Arrays.stream(arguments).boxed().toArray();
        Object want = Model.class.getDeclaredMethod(name, types).invoke(model, boxed);
        Object got = answer(ScentCloth.class.getMethod(name, types), boxed);
        rows.add(name + Arrays.toString(arguments) + " -> " + got);
        if (!want.equals(got)) {
            wrong = true;
            System.out.println("run " + run + ", due is " + want + " in the last row of:");
            rows.subList(Math.max(0, rows.size() - 60), rows.size()).forEach(System.out::println);
        }
    }

    private Object answer(Method method, Object[] arguments) throws IllegalAccessException {
        try {
            return method.invoke(x, arguments);
        } catch (InvocationTargetException thrown) {
            return thrown.getCause();
        }
    }

    private void feedText() throws ReflectiveOperationException {
        call("trim", 0);
        String[] keys = {"fade", "fade", "fade", "price", "lie"};
        String key = keys[random.nextInt(keys.length)];
        String names = key.equals("fade") ? "spw" : key.equals("price") ? "tn" : "dn";
        StringBuilder text = new StringBuilder(key).append(' ').append(expression(names, random.nextInt(5)));
        if (random.nextInt(3) == 0) {
            spoil(text);
        }
        text.setLength(Math.min(96, text.length()));
        int length = text.length();
        while (text.length() % 12 != 0) {
            text.append(' ');
        }
        for (int i = 0; i < text.length(); i += 12) {
            call("feed", four(text, i), four(text, i + 4), four(text, i + 8));
        }
        call("trim", length);
        call("text");
    }

    private static int four(StringBuilder text, int from) {
        int v = 0;
        for (int i = from; i < from + 4; i++) {
            v = v << 8 | text.charAt(i);
        }
        return v;
    }

    private String expression(String names, int depth) {
        String blank = random.nextInt(4) == 0 ? " " : "";
        int way = depth <= 0 ? random.nextInt(2) : random.nextInt(8);
        if (way == 0) {
            return blank + names.charAt(random.nextInt(names.length()));
        }
        if (way == 1) {
            return blank + random.nextInt(random.nextInt(3) == 0 ? 10000 : 30);
        }
        if (way == 2) {
            return "(" + expression(names, depth - 1) + blank + ")";
        }
        if (way == 3) {
            return blank + "!".repeat(1 + random.nextInt(3)) + "(" + expression(names, depth - 1) + ")";
        }
        char sign = "|&<=>+-*/+-*/".charAt(random.nextInt(13));
        return expression(names, depth - 1) + blank + sign + expression(names, depth - 1);
    }

    private void spoil(StringBuilder text) {
        String signs = "|&<=>+-*/!()   spwtnd0129a~\u00e9\u0000";
        int at = random.nextInt(text.length());
        char sign = signs.charAt(random.nextInt(signs.length()));
        switch (random.nextInt(4)) {
            case 0 -> text.deleteCharAt(at);
            case 1 -> text.insert(at, sign);
            case 2 -> text.setCharAt(at, sign);
            default -> text.insert(at, String.valueOf("!(".charAt(random.nextInt(2))).repeat(1 + random.nextInt(9)));
        }
    }

    private void tellDays() throws ReflectiveOperationException {
        int cloth = random.nextInt(4);
        int n = 1 + random.nextInt(random.nextInt(3) == 0 ? 30 : 4);
        List<Integer> due = model.daysTold(cloth, n);
        int way = random.nextInt(4);
        int spoiled = way == 1 && !due.isEmpty() ? random.nextInt(due.size()) : -1;
        int told = way == 2 && !due.isEmpty() ? random.nextInt(due.size()) : due.size();
        for (int i = 0; i < told; i++) {
            call("tell", i == spoiled ? due.get(i) + 1 : due.get(i));
        }
        if (way == 3) {
            call("tell", 99);
        }
        call("check", cloth, n);
    }
}
