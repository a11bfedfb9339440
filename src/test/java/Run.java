import java.lang.reflect.InvocationTargetException;
import java.lang.reflect.Method;
import java.util.HashMap;
import java.util.List;
import java.util.Map;

/** One object and the calls on it, told as text: "witness 0; set 0 1 255 = 0; truth min = BEYOND". */
final class Run {
    private static final List<String> FINDINGS = List.of("BEYOND", "FULL", "KIND", "NONE", "STATE", "MISSING", "SIZE");
    private static final Map<String, Method> FACE = new HashMap<>();
    private static final long HIGH_BITS = 0x123456789ABCDE77L;
    private static final int MOST_NUMBERS = 40;

    static {
        for (Method m : KettleInquest.class.getMethods()) {
            if (m.getDeclaringClass() == KettleInquest.class) {
                FACE.put(m.getName(), m);
            }
        }
    }

    private final KettleInquest x = new KettleInquest();
    private int calls = 0;

    int calls() {
        return calls;
    }

    static long number(String word) {
        if (FINDINGS.contains(word)) {
            return -1000000001L - FINDINGS.indexOf(word);
        }
        switch (word) {
            case "min": return Integer.MIN_VALUE;
            case "max": return Integer.MAX_VALUE;
            case "longmin": return Long.MIN_VALUE;
            case "longmax": return Long.MAX_VALUE;
            default: return Long.parseLong(word);
        }
    }

    /** A call that throws ends the test: none may. */
    long call(String text) {
        String[] words = text.trim().split(" +");
        Method m = FACE.get(words[0]);
        if (m == null || m.getParameterCount() != words.length - 1) {
            throw new IllegalArgumentException("no such call: " + text);
        }
        Object[] arguments = new Object[words.length - 1];
        for (int i = 0; i < arguments.length; i++) {
            long v = number(words[i + 1]);
            if (m.getParameterTypes()[i] == long.class) {
                arguments[i] = v;
            } else {
                arguments[i] = Math.toIntExact(v);
            }
        }
        calls++;
        try {
            return ((Number) m.invoke(x, arguments)).longValue();
        } catch (InvocationTargetException e) {
            throw new IllegalStateException(text + " threw", e.getCause());
        } catch (IllegalAccessException e) {
            throw new IllegalStateException(e);
        }
    }

    /** Calls without a due answer lead up to something: a finding there is a slip of the test. */
    void calls(String script, Check check, String name) {
        for (String step : script.split(";")) {
            if (step.isBlank()) {
                continue;
            }
            String[] sides = step.split("=");
            long got = call(sides[0]);
            if (sides.length > 1) {
                check.due(name + ": " + sides[0].trim(), number(sides[1].trim()), got);
            } else if (got < -1000000000L) {
                check.due(name + ": (leading up to it) " + step.trim(), 0, got);
            }
        }
    }

    long[] statuses() {
        long[] all = new long[FINDINGS.size() + 1];
        for (int which = -1; which < FINDINGS.size(); which++) {
            all[which + 1] = call("status " + which);
        }
        return all;
    }

    private void see(StringBuilder all, String script) {
        for (String step : script.split(";")) {
            all.append(step).append('=').append(call(step)).append(' ');
        }
    }

    private void seeSectionOne(StringBuilder all) {
        see(all, "now 0;now 1;now 2;now 3;now 4;now 7;count 1");
        long witnesses = call("count 0");
        for (int w = 0; w < witnesses; w++) {
            see(all, "of " + w + " 0;of " + w + " 1;of " + w + " 2;of " + w + " 3");
        }
    }

    /** Numbers are seen by writing others, so this ends what the sheet was. */
    private void seeSheet(StringBuilder all, int s) {
        for (int i = 0; i <= MOST_NUMBERS; i++) {
            String place = "write " + s + " " + i + " ";
            long was = call(place + HIGH_BITS);
            all.append(place).append(was).append(' ');
            if (was == number("BEYOND") || was == number("MISSING")) {
                return;
            }
            see(all, place + "0");
        }
    }

    /** All that is in the object but status(): the hall, the sheets, the tape's bytes, what is kept; it is used up by that. */
    String whole() {
        StringBuilder all = new StringBuilder();
        seeSectionOne(all);
        for (int s = 0; s < 4; s++) {
            for (int t = 0; t < s; t++) {
                see(all, "copy " + s + " 0 " + t + " 0 0");
            }
        }
        for (int s = 0; s < 4; s++) {
            seeSheet(all, s);
        }
        see(all, "inquest");
        seeSectionOne(all);
        see(all, "undo");
        seeSectionOne(all);
        see(all, "tear");
        return all.toString();
    }
}
