import java.lang.reflect.Method;
import java.util.ArrayList;
import java.util.Arrays;
import java.util.HashMap;
import java.util.List;
import java.util.Map;

/**
 * Calls on one object, told as text: "dab 0 1 -5"; several are parted by ";". Numbers may be the document's constants,
 * or MIN and MAX. "tape lie d+n" stands for the calls that put this text on the tape, up to the next ";", blanks too.
 */
final class Run {
    private static final int MOST_CALLS = 512;
    private static final Map<String, Integer> NUMBERS = Map.of("BAD", Due.BAD, "NO", Due.NO, "FULL", Due.FULL,
        "NONE", Due.NONE, "NOTHING", Due.NOTHING, "KIND", Due.KIND, "INDEX", Due.INDEX, "SIZE", Due.SIZE,
        "MIN", Integer.MIN_VALUE, "MAX", Integer.MAX_VALUE);
    private static final Map<String, List<Call>> READ = new HashMap<>();
    private static final Map<String, Method> METHODS = new HashMap<>();

    private record Call(String name, Object[] arguments) {
        @Override
        public String toString() {
            String numbers = Arrays.toString(arguments);
            return name + "(" + numbers.substring(1, numbers.length() - 1) + ")";
        }
    }

    private final Object on;
    private int made;

    /** On a ScentCloth or a Model. */
    Run(Object on) {
        this.on = on;
    }

    /** The last call's answer. */
    int answer(String calls) {
        List<Integer> all = answers(calls);
        return all.get(all.size() - 1);
    }

    List<Integer> answers(String calls) {
        List<Integer> all = new ArrayList<>();
        for (Call call : READ.computeIfAbsent(calls, Run::read)) {
            all.add(make(call));
        }
        return all;
    }

    /** One call of a row, as a report names it. */
    static String named(String calls, int place) {
        return READ.computeIfAbsent(calls, Run::read).get(place).toString();
    }

    /** The document promises nothing behind the 512th call, so no test may lean on one. */
    private int make(Call call) {
        made++;
        if (made > MOST_CALLS) {
            throw new IllegalStateException("too many calls on one object: " + call);
        }
        try {
            return (Integer) method(call).invoke(on, call.arguments);
        } catch (ReflectiveOperationException thrown) {
            throw new IllegalStateException(call + " threw", thrown);
        }
    }

    private Method method(Call call) throws NoSuchMethodException {
        String key = on.getClass().getName() + " " + call.name;
        Method known = METHODS.get(key);
        if (known == null) {
            Class<?>[] types = new Class<?>[call.arguments.length];
            Arrays.fill(types, int.class);
            known = on.getClass().getDeclaredMethod(call.name, types);
            METHODS.put(key, known);
        }
        return known;
    }

    private static List<Call> read(String calls) {
        List<Call> list = new ArrayList<>();
        for (String one : calls.split(";")) {
            String call = one.stripLeading();
            if (call.startsWith("tape ")) {
                readTape(call.substring("tape ".length()), list);
            } else if (!call.isBlank()) {
                list.add(readCall(call.strip().split("\\s+")));
            }
        }
        return list;
    }

    private static Call readCall(String[] words) {
        Object[] arguments = new Object[words.length - 1];
        for (int i = 0; i < arguments.length; i++) {
            Integer named = NUMBERS.get(words[i + 1]);
            arguments[i] = named != null ? named : Integer.valueOf(words[i + 1]);
        }
        return new Call(words[0], arguments);
    }

    private static void readTape(String text, List<Call> list) {
        list.add(readCall(new String[] {"trim", "0"}));
        for (int i = 0; i < text.length(); i += 12) {
            list.add(new Call("feed", new Object[] {four(text, i), four(text, i + 4), four(text, i + 8)}));
        }
        list.add(new Call("trim", new Object[] {text.length()}));
    }

    private static int four(String text, int from) {
        int v = 0;
        for (int i = from; i < from + 4; i++) {
            v = v << 8 | (i < text.length() ? text.charAt(i) & 255 : '~');
        }
        return v;
    }
}
